/-! draws: sums -/
def sm (f : Nat → Nat) : Nat → Nat
  | 0 => 0
  | n + 1 => sm f n + f n
theorem sm_ext {f g : Nat → Nat} : ∀ {n : Nat}, (∀ i, i < n → f i = g i) → sm f n = sm g n
  | 0, _ => rfl
  | n + 1, h => by unfold sm; rw [sm_ext (n := n) (fun i hi => h i (by omega)), h n (by omega)]
theorem sm_0 {f : Nat → Nat} : ∀ {n : Nat}, (∀ i, i < n → f i = 0) → sm f n = 0
  | 0, _ => rfl
  | n + 1, h => by unfold sm; rw [sm_0 (n := n) (fun i hi => h i (by omega)), h n (by omega)]
theorem sm_add (f g : Nat → Nat) : ∀ n, sm (fun i => f i + g i) n = sm f n + sm g n
  | 0 => rfl
  | n + 1 => by unfold sm; rw [sm_add f g n]; omega
theorem sm_mul (c : Nat) (f : Nat → Nat) : ∀ n, sm (fun i => c * f i) n = c * sm f n
  | 0 => rfl
  | n + 1 => by unfold sm; rw [sm_mul c f n, Nat.mul_add]
theorem sm_comm (A : Nat → Nat → Nat) (m : Nat) : ∀ n, sm (fun i => sm (fun j => A i j) m) n = sm (fun j => sm (fun i => A i j) n) m
  | 0 => by rw [show sm (fun j => sm (fun i => A i j) 0) m = 0 from sm_0 (fun i _ => rfl)]; rfl
  | n + 1 => by
    show sm (fun i => sm (fun j => A i j) m) n + sm (fun j => A n j) m = sm (fun j => sm (fun i => A i j) n + A n j) m
    rw [sm_comm A m n, ← sm_add]
theorem sm_one (t : Nat) : ∀ n, t < n → sm (fun i => if t = i then 1 else 0) n = 1
  | 0, h => by omega
  | n + 1, h => by
    unfold sm
    by_cases q : t = n
    · subst q; rw [if_pos rfl, sm_0 (fun i hi => if_neg (by omega))]
    · rw [if_neg q, sm_one t n (by omega)]
theorem sm_const (c : Nat) : ∀ n, sm (fun _ => c) n = n * c
  | 0 => by unfold sm; omega
  | n + 1 => by unfold sm; rw [sm_const c n, Nat.succ_mul]
theorem sm_le {f : Nat → Nat} {t : Nat} : ∀ {n : Nat}, t < n → f t ≤ sm f n
  | 0, h => by omega
  | n + 1, h => by
    unfold sm
    by_cases q : t = n
    · subst q; omega
    · have := sm_le (f := f) (t := t) (n := n) (by omega); omega
theorem sm_app (f : Nat → Nat) (a : Nat) : ∀ b, sm f (a + b) = sm f a + sm (fun i => f (a + i)) b
  | 0 => rfl
  | b + 1 => by
    show sm f (a + b) + f (a + b) = sm f a + (sm (fun i => f (a + i)) b + f (a + b))
    rw [sm_app f a b]; omega
theorem sm_from (g : Nat → Nat) (j : Nat) : ∀ n, j < n → sm (fun k => if j ≤ k then g k else 0) n = sm (fun k => if j + 1 ≤ k then g k else 0) n + g j
  | 0, h => by omega
  | n + 1, h => by
    unfold sm
    by_cases q : j = n
    · subst q
      rw [if_pos (Nat.le_refl _), if_neg (by omega), sm_0 (fun i hi => if_neg (by omega)), sm_0 (fun i hi => if_neg (by omega))]
    · rw [sm_from g j n (by omega), if_pos (by omega), if_pos (by omega)]; omega
theorem p2_or {n s : Nat} (hs : s < 2 ^ n) : 2 ^ n + s = 2 ^ n ||| s := by
  have := Nat.two_pow_add_eq_or_of_lt hs 1
  rw [Nat.mul_one] at this
  exact this
theorem sm_cut {f : Nat → Nat} {a : Nat} : ∀ {b : Nat}, a ≤ b → (∀ i, a ≤ i → i < b → f i = 0) → sm f b = sm f a
  | 0, h, _ => by rw [show a = 0 by omega]
  | b + 1, h, g => by
    by_cases q : a = b + 1
    · rw [q]
    · unfold sm
      rw [sm_cut (b := b) (by omega) (fun i h1 h2 => g i h1 (by omega)), g b (by omega) (by omega)]
      cases a <;> rfl
/-- a sum over all sets of what a set has among k: each subset of k comes 2^(n - |k|) times -/
theorem sm_sets (k : Nat) : ∀ (n : Nat) (g : Nat → Nat), sm (fun s => g (s &&& k)) (2 ^ n) = 2 ^ (n - cnt k n) * sm (fun t => if t &&& k = t then g t else 0) (2 ^ n)
  | 0, g => by
    show 0 + g (0 &&& k) = 1 * (0 + (if 0 &&& k = 0 then g 0 else 0))
    rw [Nat.zero_and, if_pos rfl]; omega
  | n + 1, g => by
    have p : 2 ^ (n + 1) = 2 ^ n + 2 ^ n := by rw [Nat.pow_succ]; omega
    have hb : ∀ s, s < 2 ^ n → (2 ^ n + s) &&& k = (if k.testBit n then 2 ^ n + (s &&& k) else s &&& k) := by
      intro s hs
      have hlt : s &&& k < 2 ^ n := Nat.lt_of_le_of_lt Nat.and_le_left hs
      apply Nat.eq_of_testBit_eq
      intro i
      rw [Nat.testBit_and]
      have e1 : (2 ^ n + s).testBit i = (decide (i = n) || s.testBit i) := by
        rw [p2_or hs, Nat.testBit_or, Nat.testBit_two_pow]
        congr 1
        rw [decide_eq_decide]; exact ⟨Eq.symm, Eq.symm⟩
      rw [e1]
      by_cases c : k.testBit n = true
      · rw [if_pos c, p2_or hlt, Nat.testBit_or, Nat.testBit_two_pow, Nat.testBit_and]
        by_cases q : i = n
        · subst q; simp [c]
        · have : ¬ n = i := fun w => q w.symm
          simp [q, this]
      · rw [if_neg c, Nat.testBit_and]
        by_cases q : i = n
        · subst q
          have c' : k.testBit i = false := by simpa using c
          simp [c']
        · simp [q]
    have hc := cnt_le k n
    rw [p, sm_app, sm_app, sm_sets k n g]
    by_cases c : k.testBit n = true
    · have e : cnt k (n + 1) = cnt k n + 1 := by show cnt k n + (if k.testBit n then 1 else 0) = _; rw [if_pos c]
      have e1 : sm (fun i => g (2 ^ n + i &&& k)) (2 ^ n) = sm (fun s => (fun z => g (2 ^ n + z)) (s &&& k)) (2 ^ n) := sm_ext (fun i hi => by rw [hb i hi, if_pos c])
      have e2 : sm (fun i => if 2 ^ n + i &&& k = 2 ^ n + i then g (2 ^ n + i) else 0) (2 ^ n) = sm (fun t => if t &&& k = t then (fun z => g (2 ^ n + z)) t else 0) (2 ^ n) := sm_ext (fun i hi => by
        rw [hb i hi, if_pos c]
        by_cases q : i &&& k = i
        · rw [if_pos (by omega), if_pos q]
        · rw [if_neg (by omega), if_neg q])
      rw [e1, e2, sm_sets k n (fun z => g (2 ^ n + z)), e, show n + 1 - (cnt k n + 1) = n - cnt k n by omega, Nat.mul_add]
    · have e : cnt k (n + 1) = cnt k n := by show cnt k n + (if k.testBit n then 1 else 0) = _; rw [if_neg c]; omega
      have e1 : sm (fun i => g (2 ^ n + i &&& k)) (2 ^ n) = sm (fun s => g (s &&& k)) (2 ^ n) := sm_ext (fun i hi => by rw [hb i hi, if_neg c])
      have e2 : sm (fun i => if 2 ^ n + i &&& k = 2 ^ n + i then g (2 ^ n + i) else 0) (2 ^ n) = 0 := sm_0 (fun i hi => by
        have : i &&& k ≤ i := Nat.and_le_left
        rw [hb i hi, if_neg c, if_neg (by omega)])
      rw [e1, e2, sm_sets k n g, e, show n + 1 - cnt k n = (n - cnt k n) + 1 by omega, Nat.pow_succ, Nat.add_zero, Nat.mul_assoc, Nat.mul_comm 2, ← Nat.mul_assoc]
      omega
/-! the cases -/
def cc (x : Int32) (n : Nat) (nb : Nat → Nat) (k q : Nat) : Nat := sm (fun s => if spr x n nb k s = q then 1 else 0) (2 ^ n)
def dr (x : Int32) (n : Nat) (nb : Nat → Nat) (a : Nat) : Nat → Nat → Nat
  | 0, q => if q = 2 ^ a then 1 else 0
  | r + 1, q => sm (fun k => cc x n nb k q * dr x n nb a r k) (2 ^ n)
theorem cc_0 {x : Int32} {n : Nat} {nb : Nat → Nat} {k q : Nat} (h : ∀ s, s < 2 ^ n → spr x n nb k s ≠ q) : cc x n nb k q = 0 := sm_0 (fun s hs => if_neg (h s hs))
theorem dr_total {x : Int32} {n : Nat} {nb : Nat → Nat} {a : Nat} (ha : a < n) : ∀ r, sm (dr x n nb a r) (2 ^ n) = (2 ^ n) ^ r
  | 0 => by
    have : sm (dr x n nb a 0) (2 ^ n) = sm (fun i => if 2 ^ a = i then 1 else 0) (2 ^ n) := sm_ext (fun i _ => by
      unfold dr
      by_cases q : i = 2 ^ a
      · rw [if_pos q, if_pos q.symm]
      · rw [if_neg q, if_neg (fun w => q w.symm)])
    rw [this, sm_one _ _ (p2_lt ha)]; rfl
  | r + 1 => by
    show sm (fun q => sm (fun k => cc x n nb k q * dr x n nb a r k) (2 ^ n)) (2 ^ n) = _
    rw [sm_comm (fun q k => cc x n nb k q * dr x n nb a r k)]
    have : ∀ k, k < 2 ^ n → sm (fun q => cc x n nb k q * dr x n nb a r k) (2 ^ n) = 2 ^ n * dr x n nb a r k := by
      intro k hk
      have e : sm (fun q => cc x n nb k q * dr x n nb a r k) (2 ^ n) = sm (fun q => dr x n nb a r k * cc x n nb k q) (2 ^ n) := sm_ext (fun q _ => Nat.mul_comm _ _)
      rw [e, sm_mul]
      have e2 : sm (fun q => cc x n nb k q) (2 ^ n) = 2 ^ n := by
        show sm (fun q => sm (fun s => if spr x n nb k s = q then 1 else 0) (2 ^ n)) (2 ^ n) = 2 ^ n
        rw [sm_comm (fun q s => if spr x n nb k s = q then 1 else 0), sm_ext (g := fun _ => 1) (fun s _ => sm_one _ _ (spr_lt hk)), sm_const, Nat.mul_one]
      rw [e2, Nat.mul_comm]
    rw [sm_ext this, sm_mul, dr_total ha r, Nat.pow_succ, Nat.mul_comm]
theorem dr_lt {x : Int32} {n : Nat} {nb : Nat → Nat} {a : Nat} (hn : n ≤ 8) (ha : a < n) {r : Nat} (hr : r ≤ 7) {k : Nat} (hk : k < 2 ^ n) : dr x n nb a r k < 2 ^ 63 := by
  have h1 : dr x n nb a r k ≤ sm (dr x n nb a r) (2 ^ n) := sm_le hk
  rw [dr_total ha] at h1
  have h2 : (2 ^ n) ^ r ≤ 2 ^ 56 := by
    rw [← Nat.pow_mul]
    refine Nat.pow_le_pow_right (by decide) ?_
    calc n * r ≤ 8 * 7 := Nat.mul_le_mul hn hr
      _ = 56 := rfl
  have : (2 : Nat) ^ 56 < 2 ^ 63 := by decide
  omega
/-- where cases are, word is at a and inside of what can be come to -/
theorem dr_in {x : Int32} (hx : x = 0 ∨ x = 1) {n : Nat} {nb : Nat → Nat} (h : iN n nb) {a : Nat} (ha : a < n) : ∀ r q, dr x n nb a r q ≠ 0 → sub (2 ^ a) q ∧ sub q (rch n nb (2 ^ a))
  | 0, q, hq => by
    unfold dr at hq
    by_cases c : q = 2 ^ a
    · subst c; exact ⟨sub_rf _, rch_sub _ _ _⟩
    · rw [if_neg c] at hq; exact absurd rfl hq
  | r + 1, q, hq => by
    apply Classical.byContradiction
    intro c
    apply hq
    unfold dr
    refine sm_0 (fun k hk => ?_)
    by_cases d : dr x n nb a r k = 0
    · rw [d, Nat.mul_zero]
    · obtain ⟨k1, k2⟩ := dr_in hx h ha r k d
      rw [cc_0, Nat.zero_mul]
      intro s _ e
      exact c ⟨by rw [← e]; exact sub_tr k1 (spr_sub _ _ _ _ _), by rw [← e]; exact spr_in hx h (rch_stp h (p2_lt ha)) k2⟩
/-! the reference -/
theorem l0_le {d : Nat} (hd : d < 2 ^ 63) : lg_cmp (lN d) 0 ≤ 0 ↔ d = 0 := by
  rw [lgc_le, show (0 : Int64) = lN 0 from rfl, pk_lLT (by decide) hd]; omega
theorem l0_eq {d : Nat} (hd : d < 2 ^ 63) : lg_cmp (lN d) 0 = 0 ↔ d = 0 := by
  constructor
  · intro h; exact (l0_le hd).mp (by rw [h]; decide)
  · rintro rfl; decide +kernel
theorem mdr_in {n : Nat} {nb : Nat → Nat} (h : iN n nb) {F : Nat → Int32} (hF : ∀ i, i < 8 → F i = nI (nb i)) {x : Int32} (hx : x = 0 ∨ x = 1) (k76 : Int32 → (Nat → Int64) → (Nat → Int64) → Int32 → Int32 → Int32 → Int32 → Option (Int64 × Int32 × (Nat → Int64) × (Nat → Int64))) (k110 : Int32 → (Nat → Int64) → (Nat → Int64) → Int32 → Int32 → Int32 → Int32 → Int32 → Option (Int64 × Int32 × (Nat → Int64) × (Nat → Int64))) (y2 y3 y4 : Int32) {C : Nat → Int64} {k d : Nat} (hk : k < 2 ^ n) (hd : d < 2 ^ 63) (hC : C k = lN d) :
    ∀ (m s : Nat) (N : Nat → Int64) (G : Nat → Nat), s ≤ 2 ^ n → 2 ^ n + 1 ≤ s + m → (∀ q, q < 2 ^ n → N q = lN (G q + d * sm (fun s => if spr x n nb k s = q then 1 else 0) s)) →
    ∃ N' : Nat → Int64, fX7_draws_c122 (nI n) F k76 k110 m 0 C N x y2 y3 y4 (nI k) (nI s) = k110 0 C N' x y2 y3 y4 (nI (k + 1)) ∧ ∀ q, q < 2 ^ n → N' q = lN (G q + d * cc x n nb k q) := by
  have hn := h.1
  have h8 := pow8 hn
  have h2 : 0 < 2 ^ n := Nat.two_pow_pos n
  intro m
  induction m with
  | zero => intro s N G h1 h2; omega
  | succ m ih =>
    intro s N G h1 h2 h3
    rw [fX7_draws_c122]
    unfold fX7_all
    rw [bd1_i, all_of n (by omega), nI_1]
    by_cases q : s = 2 ^ n
    · rw [if_pos (nI_lt (by omega) (by omega))]
      refine ⟨N, rfl, fun q hq => ?_⟩
      subst s
      exact h3 q hq
    · rw [if_neg (nI_nlt (by omega) (by omega)), ldx_n (by omega) (by decide), hC]
      by_cases z : d = 0
      · rw [if_pos ((l0_le hd).mpr z)]
        refine ⟨N, rfl, fun q hq => ?_⟩
        rw [h3 q hq, z, Nat.zero_mul, Nat.zero_mul]
      · have hp := spr_lt (h := x) (nb := nb) (s := s) hk
        rw [if_neg (fun w => z ((l0_le hd).mp w)), mspr_of h hF hx hk, bd1_i, ldx_n (by omega) (by decide), ldx_n (by omega) (by decide), hC, stl_n (by omega) (by decide), nI_1]
        refine ih (s + 1) _ G (by omega) (by omega) (fun q hq => ?_)
        show _ = lN (G q + d * (sm (fun s => if spr x n nb k s = q then 1 else 0) s + (if spr x n nb k s = q then 1 else 0)))
        by_cases e : q = spr x n nb k s
        · subst e
          rw [pk_uLs, h3 _ hq, lN_add, if_pos rfl, Nat.mul_add, Nat.mul_one, Nat.add_assoc]
        · rw [pk_uLn e, h3 q hq, if_neg (fun w => e w.symm), Nat.add_zero]
theorem mdr_sets {n : Nat} {nb : Nat → Nat} (h : iN n nb) {F : Nat → Int32} (hF : ∀ i, i < 8 → F i = nI (nb i)) {x : Int32} (hx : x = 0 ∨ x = 1) (k76 : Int32 → (Nat → Int64) → (Nat → Int64) → Int32 → Int32 → Int32 → Int32 → Option (Int64 × Int32 × (Nat → Int64) × (Nat → Int64))) (y2 y3 y4 : Int32) {C : Nat → Int64} {D : Nat → Nat} (hC : ∀ k, k < 2 ^ n → C k = lN (D k) ∧ D k < 2 ^ 63) :
    ∀ (m k : Nat) (N : Nat → Int64), k ≤ 2 ^ n → 2 ^ n + 1 ≤ k + m → (∀ q, q < 2 ^ n → N q = lN (sm (fun k => cc x n nb k q * D k) k)) →
    ∃ N' : Nat → Int64, fX7_draws_c110 (nI n) F k76 m 0 C N x y2 y3 y4 (nI k) = fX7_draws_c182 (nI n) F k76 FU 0 C N' x y2 y3 y4 0 ∧ ∀ q, q < 2 ^ n → N' q = lN (sm (fun k => cc x n nb k q * D k) (2 ^ n)) := by
  have hn := h.1
  have h8 := pow8 hn
  have h2 : 0 < 2 ^ n := Nat.two_pow_pos n
  intro m
  induction m with
  | zero => intro k N h1 h2; omega
  | succ m ih =>
    intro k N h1 h2 h3
    rw [fX7_draws_c110]
    unfold fX7_all
    rw [bd1_i, all_of n (by omega)]
    by_cases q : k = 2 ^ n
    · rw [if_pos (nI_lt (by omega) (by omega))]
      subst q
      exact ⟨N, rfl, h3⟩
    · rw [if_neg (nI_nlt (by omega) (by omega))]
      obtain ⟨N', e, hN'⟩ := mdr_in h hF hx k76 (fX7_draws_c110 (nI n) F k76 m) y2 y3 y4 (k := k) (by omega) (hC k (by omega)).2 (hC k (by omega)).1 FU 0 N (fun q => sm (fun k => cc x n nb k q * D k) k) (Nat.zero_le _) (by unfold FU; omega) (fun q hq => by
        rw [h3 q hq]; rfl)
      rw [show (0 : Int32) = nI 0 from rfl] at e ⊢
      rw [e]
      refine ih (k + 1) N' (by omega) (by omega) (fun q hq => ?_)
      rw [hN' q hq]
      show _ = lN (sm (fun k => cc x n nb k q * D k) k + cc x n nb k q * D k)
      rw [Nat.mul_comm (D k)]
theorem mdr_zero {F : Nat → Int32} (mp : Int32) (k76 : Int32 → (Nat → Int64) → (Nat → Int64) → Int32 → Int32 → Int32 → Int32 → Option (Int64 × Int32 × (Nat → Int64) × (Nat → Int64))) (x y2 y3 y4 : Int32) {C : Nat → Int64} :
    ∀ (m k : Nat) (N : Nat → Int64), k ≤ 256 → 257 ≤ k + m → (∀ q, q < k → N q = 0) → ∃ N' : Nat → Int64, fX7_draws_c85 mp F k76 m 0 C N x y2 y3 y4 (nI k) = fX7_draws_c110 mp F k76 FU 0 C N' x y2 y3 y4 0 ∧ ∀ q, q < 256 → N' q = 0 := by
  intro m
  induction m with
  | zero => intro k N h1 h2; omega
  | succ m ih =>
    intro k N h1 h2 h3
    rw [fX7_draws_c85]
    by_cases q : k = 256
    · subst q
      rw [if_pos (show (256 : Int32) ≤ nI 256 from nI_le (Nat.le_refl _) (by decide))]
      exact ⟨N, rfl, h3⟩
    · rw [if_neg (show ¬ (256 : Int32) ≤ nI k from nI_ge (show k < 256 by omega) (by decide)), stl_n (by omega) (by decide), nI_1]
      refine ih (k + 1) _ (by omega) (by omega) (fun q hq => ?_)
      by_cases e : q = k
      · subst e; rw [pk_uLs]
      · rw [pk_uLn e]; exact h3 q (by omega)
theorem mdr_copy {F : Nat → Int32} (mp : Int32) (k76 : Int32 → (Nat → Int64) → (Nat → Int64) → Int32 → Int32 → Int32 → Int32 → Option (Int64 × Int32 × (Nat → Int64) × (Nat → Int64))) (x y2 y3 y4 : Int32) {N : Nat → Int64} :
    ∀ (m k : Nat) (C : Nat → Int64), k ≤ 256 → 257 ≤ k + m → (∀ q, q < k → C q = N q) → ∃ C' : Nat → Int64, fX7_draws_c182 mp F k76 m 0 C N x y2 y3 y4 (nI k) = k76 0 C' N x y2 y3 (y4 + 1) ∧ ∀ q, q < 256 → C' q = N q := by
  intro m
  induction m with
  | zero => intro k N h1 h2; omega
  | succ m ih =>
    intro k C h1 h2 h3
    rw [fX7_draws_c182]
    by_cases q : k = 256
    · subst q
      rw [if_pos (show (256 : Int32) ≤ nI 256 from nI_le (Nat.le_refl _) (by decide))]
      exact ⟨C, rfl, h3⟩
    · rw [if_neg (show ¬ (256 : Int32) ≤ nI k from nI_ge (show k < 256 by omega) (by decide)), ldx_n (by omega) (by decide), stl_n (by omega) (by decide), nI_1]
      refine ih (k + 1) _ (by omega) (by omega) (fun q hq => ?_)
      by_cases e : q = k
      · subst e; rw [pk_uLs]
      · rw [pk_uLn e]; exact h3 q (by omega)
theorem mdr_init {F : Nat → Int32} (mp : Int32) (x y3 : Int32) {a : Nat} (ha : a < 8) {N : Nat → Int64} :
    ∀ (m k : Nat) (C : Nat → Int64), k ≤ 256 → 257 ≤ k + m → (∀ q, q < k → C q = lN (if q = 2 ^ a then 1 else 0)) → ∃ C' : Nat → Int64, fX7_draws_c39 mp F m 0 C N x (nI a) y3 (nI k) = fX7_draws_c76 mp F FU 0 C' N x (nI a) y3 0 ∧ ∀ q, q < 256 → C' q = lN (if q = 2 ^ a then 1 else 0) := by
  have h2a : 2 ^ a < 2 ^ 8 := p2_lt ha
  intro m
  induction m with
  | zero => intro k N h1 h2; omega
  | succ m ih =>
    intro k C h1 h2 h3
    rw [fX7_draws_c39]
    by_cases q : k = 256
    · subst q
      rw [if_pos (show (256 : Int32) ≤ nI 256 from nI_le (Nat.le_refl _) (by decide))]
      exact ⟨C, rfl, h3⟩
    · rw [if_neg (show ¬ (256 : Int32) ≤ nI k from nI_ge (show k < 256 by omega) (by decide)), sh1 a (by omega)]
      by_cases c : k = 2 ^ a
      · rw [if_pos (by rw [c]), stl_n (by omega) (by decide), nI_1]
        refine ih (k + 1) _ (by omega) (by omega) (fun q hq => ?_)
        by_cases e : q = k
        · subst e; rw [pk_uLs, if_pos c]; rfl
        · rw [pk_uLn e]; exact h3 q (by omega)
      · rw [if_neg (fun w => c ((nI_eq (by omega) (by omega)).mp w)), stl_n (by omega) (by decide), nI_1]
        refine ih (k + 1) _ (by omega) (by omega) (fun q hq => ?_)
        by_cases e : q = k
        · subst e; rw [pk_uLs, if_neg c]; rfl
        · rw [pk_uLn e]; exact h3 q (by omega)
theorem mdr_rounds {n : Nat} {nb : Nat → Nat} (h : iN n nb) {F : Nat → Int32} (hF : ∀ i, i < 8 → F i = nI (nb i)) {x : Int32} (hx : x = 0 ∨ x = 1) {a t : Nat} (ha : a < n) (ht : t ≤ 7) :
    ∀ (m r : Nat) (C N : Nat → Int64), r ≤ t → t + 1 ≤ r + m → (∀ q, q < 2 ^ n → C q = lN (dr x n nb a r q)) → ∃ C' N' : Nat → Int64, fX7_draws_c76 (nI n) F m 0 C N x (nI a) (nI t) (nI r) = some (lN (dr x n nb a t (rch n nb (2 ^ a))), 0, C', N') := by
  have hn := h.1
  have h8 := pow8 hn
  intro m
  induction m with
  | zero => intro r C N h1 h2; omega
  | succ m ih =>
    intro r C N h1 h2 h3
    rw [fX7_draws_c76]
    by_cases q : r = t
    · subst q
      have hg := rch_lt h (p2_lt ha)
      rw [if_pos (nI_le (Nat.le_refl _) (by omega)), sh1 a (by omega), mreach_of h hF (p2_lt ha), bd1_i, ldx_n (by omega) (by decide), h3 _ hg]
      exact ⟨C, N, rfl⟩
    · rw [if_neg (nI_ge (by omega) (by omega))]
      obtain ⟨N1, e1, z1⟩ := mdr_zero (F := F) (nI n) (fX7_draws_c76 (nI n) F m) x (nI a) (nI t) (nI r) (C := C) FU 0 N (by decide) (by decide) (fun q hq => by omega)
      obtain ⟨N2, e2, z2⟩ := mdr_sets h hF hx (fX7_draws_c76 (nI n) F m) (nI a) (nI t) (nI r) (C := C) (D := dr x n nb a r) (fun k hk => ⟨h3 k hk, dr_lt hn ha (by omega) hk⟩) FU 0 N1 (Nat.zero_le _) (by unfold FU; omega) (fun q hq => by rw [z1 q (by omega)]; rfl)
      obtain ⟨C3, e3, z3⟩ := mdr_copy (F := F) (nI n) (fX7_draws_c76 (nI n) F m) x (nI a) (nI t) (nI r) (N := N2) FU 0 C (by decide) (by decide) (fun q hq => by omega)
      rw [show nI 0 = (0 : Int32) from rfl] at e1 e2 e3
      rw [e1, e2, e3, nI_1]
      exact ih (r + 1) C3 N2 (by omega) (by omega) (fun q hq => by rw [z3 q (by omega), z2 q hq]; rfl)
/-! the component -/
def pP (x : Int32) (n : Nat) (nb : Nat → Nat) (k q t : Nat) : Nat := if t ≠ 0 ∧ t &&& k = t ∧ k ||| hea x n nb t = q then 1 else 0
theorem xdr_subs {n : Nat} {nb : Nat → Nat} (hn : n ≤ 8) {x : Int32} {Q : Nat → Int32} (hQ : ∀ t, t < 2 ^ n → Q t = nI (hea x n nb t)) {k each : Nat} (hk : k < 2 ^ n) :
    ∀ (m t : Nat) (C : Nat → Int64) (G : Nat → Nat), t + 1 ≤ m → t &&& k = t → (∀ q, q < 2 ^ n → C q = lN (G q)) → ∃ C' : Nat → Int64, fX3_drawFrom_c24 Q m C (nI k) (lN each) (nI t) = some C' ∧ ∀ q, q < 2 ^ n → C' q = lN (G q + each * sm (pP x n nb k q) (t + 1)) := by
  have h8 := pow8 hn
  intro m
  induction m with
  | zero => intro t C G h1; omega
  | succ m ih =>
    intro t C G h1 h2 h3
    have htk : t ≤ k := by rw [← h2]; exact Nat.and_le_right
    rw [fX3_drawFrom_c24]
    by_cases z : t = 0
    · subst z
      rw [if_pos (by decide)]
      refine ⟨C, rfl, fun q hq => ?_⟩
      have : sm (pP x n nb k q) (0 + 1) = 0 := by
        show 0 + pP x n nb k q 0 = 0
        unfold pP
        rw [if_neg (fun w => w.1 rfl)]
      rw [this, Nat.mul_zero, h3 q hq]; rfl
    · have hq0 : k ||| hea x n nb t < 2 ^ n := Nat.or_lt_two_pow hk (hrs_lt _ _ _ _ _)
      have hx' : (t - 1) &&& k < t := Nat.lt_of_le_of_lt Nat.and_le_left (by omega)
      rw [if_neg (nI_nle (by omega) (by omega)), ldx_n (by omega) (by decide), hQ t (by omega), nI_or, ldx_n (by omega) (by decide), stl_n (by omega) (by decide), show (1 : Int32) = nI 1 from rfl, pk_sub (by omega), nI_and, bnd_i, h3 _ hq0, lN_add]
      obtain ⟨C', e, g⟩ := ih ((t - 1) &&& k) (vp_updL C (k ||| hea x n nb t) (lN (G (k ||| hea x n nb t) + each))) (fun q => G q + (if q = k ||| hea x n nb t then each else 0)) (by omega) (by rw [Nat.and_assoc, Nat.and_self]) (fun q hq => by
        by_cases c : q = k ||| hea x n nb t
        · subst c; rw [pk_uLs, if_pos rfl]
        · rw [pk_uLn c, h3 q hq, if_neg c]; rfl)
      refine ⟨C', e, fun q hq => ?_⟩
      rw [g q hq]
      have e1 : sm (pP x n nb k q) (t + 1) = sm (pP x n nb k q) ((t - 1 &&& k) + 1) + (if q = k ||| hea x n nb t then 1 else 0) := by
        show sm (pP x n nb k q) t + pP x n nb k q t = _
        rw [sm_cut (a := (t - 1 &&& k) + 1) (b := t) (by omega) (fun i i1 i2 => by
          unfold pP
          refine if_neg (fun w => ?_)
          have := sub_next n t k i (by omega) h2 w.2.1 i2
          omega)]
        congr 1
        unfold pP
        by_cases c : q = k ||| hea x n nb t
        · rw [if_pos ⟨z, h2, c.symm⟩, if_pos c]
        · rw [if_neg (fun w => c w.2.2.symm), if_neg c]
      rw [e1, Nat.mul_add]
      congr 1
      by_cases c : q = k ||| hea x n nb t
      · rw [if_pos c, if_pos c]; omega
      · rw [if_neg c, if_neg c]; omega
theorem sh63 : ∀ k, k < 9 → ((nI k).toInt64 &&& 63).toBitVec.smod 64 = BitVec.ofNat 64 k := by decide +kernel
theorem lN_shl (d : Nat) {k : Nat} (hk : k < 9) : lN d <<< ((nI k).toInt64 &&& 63) = lN (d * 2 ^ k) := by
  apply Int64.toBitVec_inj.1
  show (lN d).toBitVec <<< (((nI k).toInt64 &&& 63).toBitVec.smod 64) = BitVec.ofNat 64 (d * 2 ^ k)
  rw [sh63 k hk]
  apply BitVec.eq_of_toNat_eq
  rw [BitVec.shiftLeft_eq', BitVec.toNat_shiftLeft, BitVec.toNat_ofNat, BitVec.toNat_ofNat, Nat.mod_eq_of_lt (show k < 2 ^ 64 by omega)]
  show (BitVec.ofNat 64 d).toNat <<< k % 2 ^ 64 = _
  rw [BitVec.toNat_ofNat, Nat.shiftLeft_eq, Nat.mod_mul_mod]
/-- how often k becomes q -/
theorem cc_subs {x : Int32} (hx : x = 0 ∨ x = 1) {n : Nat} {nb : Nat → Nat} {k q : Nat} (hk : k < 2 ^ n) : cc x n nb k q = 2 ^ (n - cnt k n) * (sm (pP x n nb k q) (k + 1) + (if q = k then 1 else 0)) := by
  unfold cc
  have e1 : sm (fun s => if spr x n nb k s = q then 1 else 0) (2 ^ n) = sm (fun s => (fun z => if k ||| hea x n nb z = q then 1 else 0) (s &&& k)) (2 ^ n) := sm_ext (fun s _ => by
    show (if k ||| hea x n nb (k &&& s) = q then 1 else 0) = (if k ||| hea x n nb (s &&& k) = q then 1 else 0)
    rw [Nat.and_comm])
  rw [e1, sm_sets k n (fun z => if k ||| hea x n nb z = q then 1 else 0)]
  congr 1
  have e2 : sm (fun t => if t &&& k = t then (fun z => if k ||| hea x n nb z = q then 1 else 0) t else 0) (2 ^ n) = sm (fun t => pP x n nb k q t + (if 0 = t then (if q = k then 1 else 0) else 0)) (2 ^ n) := sm_ext (fun t _ => by
    show (if t &&& k = t then (if k ||| hea x n nb t = q then 1 else 0) else 0) = _
    unfold pP
    by_cases z : t = 0
    · subst z
      rw [if_pos (Nat.zero_and k), hea_0 hx, Nat.or_zero, if_neg (show ¬ (0 ≠ 0 ∧ 0 &&& k = 0 ∧ k = q) from fun w => w.1 rfl), if_pos (show 0 = 0 from rfl), Nat.zero_add]
      by_cases c : k = q
      · rw [if_pos c, if_pos c.symm]
      · rw [if_neg c, if_neg (fun w => c w.symm)]
    · rw [if_neg (show ¬ 0 = t from fun w => z w.symm), Nat.add_zero]
      by_cases c : t &&& k = t
      · rw [if_pos c]
        by_cases d : k ||| hea x n nb t = q
        · rw [if_pos d, if_pos ⟨z, c, d⟩]
        · rw [if_neg d, if_neg (fun w => d w.2.2)]
      · rw [if_neg c, if_neg (fun w => c w.2.1)])
  rw [e2, sm_add]
  have e3 : sm (pP x n nb k q) (2 ^ n) = sm (pP x n nb k q) (k + 1) := sm_cut (by omega) (fun i i1 i2 => by
    unfold pP
    refine if_neg (fun w => ?_)
    have : i &&& k ≤ k := Nat.and_le_right
    omega)
  rw [e3]
  congr 1
  by_cases c : q = k
  · rw [if_pos c, sm_ext (g := fun i => if 0 = i then 1 else 0) (fun i _ => rfl), sm_one 0 _ (Nat.two_pow_pos n)]
  · rw [if_neg c, sm_0 (fun i _ => by split <;> rfl)]
theorem xdr_from {n : Nat} {nb : Nat → Nat} (hn : n ≤ 8) {x : Int32} (hx : x = 0 ∨ x = 1) {Q : Nat → Int32} (hQ : ∀ t, t < 2 ^ n → Q t = nI (hea x n nb t)) {k : Nat} (hk : k < 2 ^ n) (C : Nat → Int64) (G : Nat → Nat) (hC : ∀ q, q < 2 ^ n → C q = lN (G q)) :
    ∃ C' : Nat → Int64, fX3_drawFrom Q C (nI n) (nI k) = some C' ∧ ∀ q, q < 2 ^ n → C' q = lN ((if q = k then 0 else G q) + G k * cc x n nb k q) := by
  have h8 := pow8 hn
  unfold fX3_drawFrom
  have hc : cnt k 8 = cnt k n := cnt_w hk hn
  have hcl := cnt_le k n
  rw [ldx_n (by omega) (by decide), bc_of k (by omega), bd1_i, hc, pk_sub hcl, hC k hk, lN_shl _ (by omega), bnd_i, stl_n (by omega) (by decide)]
  obtain ⟨C', e, g⟩ := xdr_subs hn hQ (each := G k * 2 ^ (n - cnt k n)) hk FU k (vp_updL C k (lN (G k * 2 ^ (n - cnt k n)))) (fun q => if q = k then G k * 2 ^ (n - cnt k n) else G q) (by unfold FU; omega) (Nat.and_self k) (fun q hq => by
    by_cases c : q = k
    · subst c; rw [pk_uLs, if_pos rfl]
    · rw [pk_uLn c, if_neg c, hC q hq])
  refine ⟨C', e, fun q hq => ?_⟩
  rw [g q hq, cc_subs hx hk, ← Nat.mul_assoc, Nat.mul_add]
  congr 1
  by_cases c : q = k
  · rw [if_pos c, if_pos c, if_pos c]; omega
  · rw [if_neg c, if_neg c, if_neg c]; omega
/-- while the sets from j on are done -/
def dH (x : Int32) (n : Nat) (nb : Nat → Nat) (D : Nat → Nat) (j q : Nat) : Nat := (if q < j then D q else 0) + sm (fun k => if j ≤ k then cc x n nb k q * D k else 0) (2 ^ n)
theorem cc_gt {x : Int32} {n : Nat} {nb : Nat → Nat} {k q : Nat} (h : q < k) : cc x n nb k q = 0 := cc_0 (fun s _ e => by
  have := sub_le (spr_sub x n nb k s)
  omega)
theorem dH_at {x : Int32} {n : Nat} {nb : Nat → Nat} {D : Nat → Nat} {k : Nat} : dH x n nb D (k + 1) k = D k := by
  unfold dH
  rw [if_pos (by omega), sm_0 (fun i _ => by
    by_cases c : k + 1 ≤ i
    · rw [if_pos c, cc_gt (by omega), Nat.zero_mul]
    · rw [if_neg c]), Nat.add_zero]
theorem dH_s {x : Int32} {n : Nat} {nb : Nat → Nat} {D : Nat → Nat} {k q : Nat} (hk : k < 2 ^ n) : dH x n nb D k q = (if q = k then 0 else dH x n nb D (k + 1) q) + D k * cc x n nb k q := by
  unfold dH
  rw [sm_from (fun i => cc x n nb i q * D i) k _ hk, Nat.mul_comm (D k), ← Nat.add_assoc]
  congr 1
  by_cases c : q = k
  · subst c
    rw [if_neg (by omega), if_pos rfl, sm_0 (fun i _ => by
      by_cases c : q + 1 ≤ i
      · rw [if_pos c, cc_gt (by omega), Nat.zero_mul]
      · rw [if_neg c])]
  · rw [if_neg c]
    congr 1
    by_cases d : q < k
    · rw [if_pos d, if_pos (by omega)]
    · rw [if_neg d, if_neg (by omega)]
theorem xdr_down {n : Nat} {nb : Nat → Nat} (hn : n ≤ 8) {x : Int32} (hx : x = 0 ∨ x = 1) {Q : Nat → Int32} (hQ : ∀ t, t < 2 ^ n → Q t = nI (hea x n nb t)) {D : Nat → Nat} (hD : ∀ k, k < 2 ^ n → D k < 2 ^ 63) {f : Nat} (hf : 0 < f) :
    ∀ (m j : Nat) (C : Nat → Int64), f ≤ j → j ≤ 2 ^ n → j + 1 ≤ f + m → (∀ q, q < 2 ^ n → C q = lN (dH x n nb D j q)) → ∃ C' : Nat → Int64, fX3_drawOneRound_c15 Q m C (nI n) (nI f) (nI j - 1) = some C' ∧ ∀ q, q < 2 ^ n → C' q = lN (dH x n nb D f q) := by
  have h8 := pow8 hn
  intro m
  induction m with
  | zero => intro j C h0 h1 h2; omega
  | succ m ih =>
    intro j C h0 h1 h2 h3
    rw [fX3_drawOneRound_c15, nI_dec (by omega)]
    by_cases q : j = f
    · subst q
      rw [if_pos (nI_lt (by omega) (by omega))]
      exact ⟨C, rfl, h3⟩
    · obtain ⟨k, rfl⟩ : ∃ k, j = k + 1 := ⟨j - 1, by omega⟩
      have hk : k < 2 ^ n := by omega
      have hm1 : nI (k + 1 - 1) + (-1) = nI k - 1 := by
        rw [show k + 1 - 1 = k by omega, Int32.sub_eq_add_neg]
      have hCk : C k = lN (D k) := by rw [h3 k hk, dH_at]
      rw [if_neg (nI_nlt (by omega) (by omega)), hm1, show k + 1 - 1 = k by omega, ldx_n (by omega) (by decide), hCk]
      by_cases z : D k = 0
      · rw [if_pos ((l0_eq (hD k hk)).mpr z)]
        refine ih k C (by omega) (by omega) (by omega) (fun q hq => ?_)
        rw [h3 q hq, dH_s hk, z, Nat.zero_mul]
        by_cases c : q = k
        · subst c; rw [if_pos rfl, dH_at, z]
        · rw [if_neg c]; rfl
      · rw [if_neg (fun w => z ((l0_eq (hD k hk)).mp w))]
        obtain ⟨C', e, g⟩ := xdr_from hn hx hQ hk C _ h3
        rw [e, bd1_i]
        refine ih k C' (by omega) (by omega) (by omega) (fun q hq => ?_)
        rw [g q hq, dH_s hk, dH_at]
theorem xdr_round {n : Nat} {nb : Nat → Nat} (h : iN n nb) {x : Int32} (hx : x = 0 ∨ x = 1) {Q : Nat → Int32} (hQ : ∀ t, t < 2 ^ n → Q t = nI (hea x n nb t)) {a r : Nat} (ha : a < n) (hr : r ≤ 7) (C : Nat → Int64) (hC : ∀ q, q < 2 ^ n → C q = lN (dr x n nb a r q)) :
    ∃ C' : Nat → Int64, fX3_drawOneRound Q C (nI n) (nI (2 ^ a)) (nI (rch n nb (2 ^ a))) = some C' ∧ ∀ q, q < 2 ^ n → C' q = lN (dr x n nb a (r + 1) q) := by
  have hn := h.1
  have h8 := pow8 hn
  have h2a := p2_lt ha
  have hg := rch_lt h h2a
  have hge : 2 ^ a ≤ rch n nb (2 ^ a) := sub_le (rch_sub n nb (2 ^ a))
  have h1a : 0 < 2 ^ a := Nat.two_pow_pos a
  have hst := rch_stp h h2a
  unfold fX3_drawOneRound
  rw [ldx_n (by omega) (by decide), hC _ hg, lN_shl _ (by omega), stl_n (by omega) (by decide)]
  obtain ⟨C', e, g⟩ := xdr_down hn hx hQ (D := dr x n nb a r) (fun k hk => dr_lt hn ha hr hk) h1a FU (rch n nb (2 ^ a)) (vp_updL C (rch n nb (2 ^ a)) (lN (dr x n nb a r (rch n nb (2 ^ a)) * 2 ^ n))) hge (by omega) (by unfold FU; omega) (fun q hq => by
    have hfar : ∀ k, rch n nb (2 ^ a) < k → dr x n nb a r k = 0 := fun k hk => Classical.byContradiction (fun w => by
      have := sub_le (dr_in hx h ha r k w).2
      omega)
    rw [dH_s hg]
    have hcc : cc x n nb (rch n nb (2 ^ a)) q = if q = rch n nb (2 ^ a) then 2 ^ n else 0 := by
      by_cases c : q = rch n nb (2 ^ a)
      · rw [if_pos c]
        show sm (fun s => if spr x n nb (rch n nb (2 ^ a)) s = q then 1 else 0) (2 ^ n) = 2 ^ n
        rw [sm_ext (g := fun _ => 1) (fun s _ => if_pos (by rw [spr_end hx h hst, c])), sm_const, Nat.mul_one]
      · rw [if_neg c]
        exact cc_0 (fun s _ w => c (by rw [← w, spr_end hx h hst]))
    rw [hcc]
    by_cases c : q = rch n nb (2 ^ a)
    · subst c
      rw [pk_uLs, if_pos rfl, if_pos rfl, Nat.zero_add]
    · rw [pk_uLn c, hC q hq, if_neg c, if_neg c, Nat.mul_zero, Nat.add_zero]
      unfold dH
      rw [sm_0 (fun i _ => by
        by_cases w : rch n nb (2 ^ a) + 1 ≤ i
        · rw [if_pos w, hfar i (by omega), Nat.mul_zero]
        · rw [if_neg w]), Nat.add_zero]
      by_cases w : q < rch n nb (2 ^ a) + 1
      · rw [if_pos w]
      · rw [if_neg w, hfar q (by omega)])
  refine ⟨C', e, fun q hq => ?_⟩
  rw [g q hq]
  have hlow : ∀ k, k < 2 ^ a → dr x n nb a r k = 0 := fun k hk => Classical.byContradiction (fun w => by
      have := sub_le (dr_in hx h ha r k w).1
      omega)
  unfold dH
  show lN ((if q < 2 ^ a then dr x n nb a r q else 0) + _) = lN (sm (fun k => cc x n nb k q * dr x n nb a r k) (2 ^ n))
  rw [sm_ext (g := fun k => cc x n nb k q * dr x n nb a r k) (fun k _ => by
    by_cases w : 2 ^ a ≤ k
    · rw [if_pos w]
    · rw [if_neg w, hlow k (by omega), Nat.mul_zero])]
  by_cases w : q < 2 ^ a
  · rw [if_pos w, hlow q w, Nat.zero_add]
  · rw [if_neg w, Nat.zero_add]
theorem xdr_rounds {n : Nat} {nb : Nat → Nat} (h : iN n nb) (F : Nat → Int32) {x : Int32} (hx : x = 0 ∨ x = 1) {Q : Nat → Int32} (hQ : ∀ t, t < 2 ^ n → Q t = nI (hea x n nb t)) {a t : Nat} (ha : a < n) (ht : t ≤ 7) :
    ∀ (m r : Nat) (C : Nat → Int64), r ≤ t → t + 1 ≤ r + m → (∀ q, q < 2 ^ n → C q = lN (dr x n nb a r q)) → ∃ C' : Nat → Int64, fX3_casesThatReachAll_c32 (nI n) F Q m C (nI t) (nI (2 ^ a)) (nI (rch n nb (2 ^ a))) (nI r) = some (lN (dr x n nb a t (rch n nb (2 ^ a))), C') := by
  have hn := h.1
  have h8 := pow8 hn
  have hg := rch_lt h (p2_lt ha)
  intro m
  induction m with
  | zero => intro r C h1 h2; omega
  | succ m ih =>
    intro r C h1 h2 h3
    rw [fX3_casesThatReachAll_c32]
    by_cases q : r = t
    · subst q
      rw [if_pos (nI_le (Nat.le_refl _) (by omega)), ldx_n (by omega) (by decide), h3 _ hg]
      exact ⟨C, rfl⟩
    · rw [if_neg (nI_ge (by omega) (by omega))]
      unfold fX1_size
      obtain ⟨C', e, g⟩ := xdr_round h hx hQ ha (r := r) (by omega) C h3
      rw [bd1_i, e, bd1_i, nI_1]
      exact ih (r + 1) C' (by omega) (by omega) g
theorem st_draws {B_latestFinding : Int32} {B_latestFault : Int32} {S_lanes : Nat → Int32} {S_sizes : Nat → Int32} {S_rows : Nat → Nat → Int32} {N_posts : Int32} {N_neighbours : Nat → Int32} {R_length : Int32} {R_tape : Nat → Int32} {T_size : Int32} {T_rounds : Nat → Int32} {K_length : Int32} {K_begun : Nat → Int32} {M_status : Int32} {M_posts : Int32} {M_rounds : Int32} {M_taped : Int32} {M_latest : Int32} {M_traced : Int32} {M_lane : Nat → Int32} {M_many : Nat → Int32} {M_item : Nat → Int32} {M_beside : Nat → Int32} {M_round : Nat → Int32} {M_tape : Nat → Int32} {M_trace : Nat → Int32} (hI : Inv B_latestFinding B_latestFault S_lanes S_sizes S_rows N_posts N_neighbours R_length R_tape T_size T_rounds K_length K_begun M_status M_posts M_rounds M_taped M_latest M_traced M_lane M_many M_item M_beside M_round M_tape M_trace) (p0 : Int32) (p1 : Int32) (p2 : Int32) (Q_heard : Nat → Int32) (Q_cases : Nat → Int64) (M_thrown : Int32) (M_cases : Nat → Int64) (M_next : Nat → Int64) : ∃ (rr : Int64) (Q_heard_z : Nat → Int32) (Q_cases_z : Nat → Int64) (M_thrown_z : Int32) (M_cases_z : Nat → Int64) (M_next_z : Nat → Int64), fX6_draws N_posts N_neighbours Q_heard Q_cases p0 p1 p2 = some (rr, Q_heard_z, Q_cases_z) ∧ fX7_draws M_thrown M_posts M_beside M_cases M_next p0 p1 p2 = some (rr, M_thrown_z, M_cases_z, M_next_z) ∧ Inv B_latestFinding B_latestFault S_lanes S_sizes S_rows N_posts N_neighbours R_length R_tape T_size T_rounds K_length K_begun M_status M_posts M_rounds M_taped M_latest M_traced M_lane M_many M_item M_beside M_round M_tape M_trace := by
  obtain ⟨n, nb, ⟨hN, eN, eM, h4⟩, hS, hT, hTT, hTr, e1, e2⟩ := id hI
  have hn := hN.1
  have hFX : ∀ i, i < 8 → N_neighbours i = nI (nb i) := fun i hi => (h4 i hi).1
  have hFM : ∀ i, i < 8 → M_beside i = nI (nb i) := fun i hi => (h4 i hi).2
  rcases hear_cases p0 with ⟨hx, ha1, ha2⟩ | ⟨ha1, ha2⟩
  case inr =>
    refine ⟨-1000001, Q_heard, Q_cases, 0, M_cases, M_next, ?_, ?_, hI⟩
    · unfold fX6_draws
      rw [ha1, bd1_i, if_pos rfl]
    · unfold fX7_draws
      rw [ha2, bd1_i, if_pos rfl]
  rcases post_cases p1 hn with ⟨a, ha, rfl, hb1, hb2⟩ | ⟨hb1, hb2⟩
  case inr =>
    refine ⟨-1000001, Q_heard, Q_cases, 0, M_cases, M_next, ?_, ?_, hI⟩
    · unfold fX6_draws
      rw [ha1, bd1_i, if_neg (by decide), eN, hb1, bd1_i, if_pos rfl]
    · unfold fX7_draws
      rw [ha2, bd1_i, if_neg (by decide), eM, hb2, bd1_i, if_pos rfl]
  rcases rng_cases p2 8 (by decide) with ⟨t, ht, rfl⟩ | hp
  case inr =>
    refine ⟨-1000001, Q_heard, Q_cases, 0, M_cases, M_next, ?_, ?_, hI⟩
    · unfold fX6_draws
      rw [ha1, bd1_i, if_neg (by decide), eN, hb1, bd1_i, if_neg (by decide)]
      by_cases c0 : p2 < 0
      · rw [if_pos c0]
      · have c8 := hp.resolve_left c0
        rw [if_neg c0, if_neg]
        intro w
        rw [i32_le, show (7 : Int32).toInt = 7 from rfl] at w
        rw [i32_le, nI_toInt (by decide)] at c8
        omega
    · unfold fX7_draws
      have hin : fX7_in p2.toInt64 0 7 = some 0 := in_k_f (k := 8) hp (by decide)
      rw [ha2, bd1_i, if_neg (by decide), eM, hb2, bd1_i, if_neg (by decide), hin, bd1_i, if_pos rfl]
  have h8 := pow8 hn
  have h2a := p2_lt ha
  obtain ⟨Q', l1, l2⟩ := listen_of hN hFX hx Q_heard
  obtain ⟨C1, c1⟩ := xdr_rounds hN N_neighbours hx l2 ha (t := t) (by omega) FU 0 (vp_updL (fillL 256 Q_cases 0) (2 ^ a) 1) (Nat.zero_le _) (by unfold FU; omega) (fun q hq => by
    unfold dr
    by_cases c : q = 2 ^ a
    · subst c; rw [pk_uLs, if_pos rfl]; rfl
    · rw [pk_uLn c, if_neg c]
      unfold fillL
      rw [if_pos (by omega)]; rfl)
  obtain ⟨C2, d1, d2⟩ := mdr_init (F := M_beside) (nI n) p0 (nI t) (a := a) (by omega) (N := M_next) FU 0 M_cases (by decide) (by decide) (fun q hq => by omega)
  obtain ⟨C3, N3, d3⟩ := mdr_rounds hN hFM hx ha (t := t) (by omega) FU 0 C2 M_next (Nat.zero_le _) (by unfold FU; omega) (fun q hq => d2 q (by omega))
  refine ⟨lN (dr p0 n nb a t (rch n nb (2 ^ a))), Q', C1, 0, C3, N3, ?_, ?_, hI⟩
  · unfold fX6_draws fX3_casesThatReachAll
    rw [ha1, bd1_i, if_neg (by decide), eN, hb1, bd1_i, if_neg (by decide), if_neg (nI_pos (by omega)), if_pos (show nI t ≤ (7 : Int32) from nI_le (show t ≤ 7 by omega) (by decide)), l1, bd1_i, bnd_i, sh1 a (by omega), xreach_of hN hFX h2a, bd1_i, bnd_i, stl_n (by omega) (by decide)]
    rw [show (0 : Int32) = nI 0 from rfl, c1, bd2_i]
  · unfold fX7_draws
    have hin : fX7_in (nI t).toInt64 0 7 = some 1 := by
      rw [z64, show (7 : Int64) = (nI 7).toInt64 from rfl, in_t (nI_pos (by omega)) (nI_nlt (by omega) (by omega))]
    rw [ha2, bd1_i, if_neg (by decide), eM, hb2, bd1_i, if_neg (by decide), hin, bd1_i, if_neg (by decide)]
    rw [show nI 0 = (0 : Int32) from rfl] at d1 d3
    rw [d1, d3]
