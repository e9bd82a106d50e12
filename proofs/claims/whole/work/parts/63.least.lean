/-! least: how many rounds -/
def can (x : Int32) (n : Nat) (nb : Nat → Nat) (G : Nat) : Nat → Nat → Prop
  | 0, k => k = G
  | v + 1, k => ∃ s, s < 2 ^ n ∧ can x n nb G v (spr x n nb k s)
theorem can_s {x : Int32} (hx : x = 0 ∨ x = 1) {n : Nat} {nb : Nat → Nat} {G v k : Nat} (h : can x n nb G v k) : can x n nb G (v + 1) k := ⟨0, Nat.two_pow_pos n, by rw [spr_0 hx]; exact h⟩
theorem can_le {x : Int32} (hx : x = 0 ∨ x = 1) {n : Nat} {nb : Nat → Nat} {G v k : Nat} (h : can x n nb G v k) : ∀ w, v ≤ w → can x n nb G w k
  | 0, hw => by rw [show v = 0 by omega] at h; exact h
  | w + 1, hw => by
    by_cases q : v = w + 1
    · rw [← q]; exact h
    · exact can_s hx (can_le hx h w (by omega))
theorem can_go {x : Int32} {n : Nat} {nb : Nat → Nat} {G k : Nat} (hk : k ≠ G) : ∀ v, can x n nb G v k → ∃ s u, s < 2 ^ n ∧ u < v ∧ spr x n nb k s ≠ k ∧ can x n nb G u (spr x n nb k s)
  | 0, h => absurd h hk
  | v + 1, ⟨s, h1, h2⟩ => by
    by_cases q : spr x n nb k s = k
    · rw [q] at h2
      obtain ⟨s', u, a1, a2, a3, a4⟩ := can_go hk v h2
      exact ⟨s', u, a1, by omega, a3, a4⟩
    · exact ⟨s, v, h1, by omega, q, h2⟩
def isd (x : Int32) (n : Nat) (nb : Nat → Nat) (G k w : Nat) : Prop := ∀ v, can x n nb G v k ↔ w ≤ v
theorem isd_u {x : Int32} {n : Nat} {nb : Nat → Nat} {G k w w' : Nat} (h : isd x n nb G k w) (g : isd x n nb G k w') : w = w' := by
  have a := (g w).mp ((h w).mpr (Nat.le_refl _))
  have b := (h w').mp ((g w').mpr (Nat.le_refl _))
  omega
theorem isd_G {x : Int32} (hx : x = 0 ∨ x = 1) {n : Nat} {nb : Nat → Nat} {G : Nat} : isd x n nb G G 0 := fun v => ⟨fun _ => by omega, fun h => can_le hx (show can x n nb G 0 G from rfl) v h⟩
/-- where not all is told yet, one that knows can tell one more -/
theorem conn {x : Int32} (hx : x = 0 ∨ x = 1) {n : Nat} {nb : Nat → Nat} (h : iN n nb) {f k : Nat} (hf : f < 2 ^ n) (h1 : sub f k) (h2 : sub k (rch n nb f)) (hne : k ≠ rch n nb f) : ∃ t, t &&& k = t ∧ t ≠ 0 ∧ t < 2 ^ n ∧ spr x n nb k t ≠ k := by
  have hn := h.1
  have hk : k < 2 ^ n := Nat.lt_of_le_of_lt (sub_le h2) (rch_lt h hf)
  have hs : stp n nb k ≠ k := by
    intro e
    have hi : ∀ i, sub (itr n nb f i) k := by
      intro i
      induction i with
      | zero => exact h1
      | succ i ih =>
        intro j q
        rw [← e]
        show (stp n nb k).testBit j = true
        have q' : (stp n nb (itr n nb f i)).testBit j = true := q
        unfold stp at q' ⊢
        rw [Nat.testBit_or, Bool.or_eq_true] at q' ⊢
        rcases q' with q' | q'
        · exact Or.inl (ih j q')
        · right
          rw [arnd_bit] at q' ⊢
          obtain ⟨p, p1, p2, p3⟩ := q'
          exact ⟨p, p1, ih p p2, p3⟩
    exact hne (sub_as h2 (hi 8))
  obtain ⟨j, j1, j2⟩ := ne_bit (sub_stp n nb k) (Ne.symm hs)
  have j3 : (arnd nb k n).testBit j = true := by
    unfold stp at j2
    rw [Nat.testBit_or, Bool.or_eq_true] at j2
    exact j2.resolve_left j1
  rw [arnd_bit] at j3
  obtain ⟨p, p1, p2, p3⟩ := j3
  have hj : j < n := bit_lt (h.2.1 p (by omega)) p3
  have hsub : sub (2 ^ p) k := fun i q => by
    rw [Nat.testBit_two_pow] at q
    have : p = i := by simpa using q
    rw [← this]; exact p2
  have hand : 2 ^ p &&& k = 2 ^ p := sub_and.mp hsub
  refine ⟨2 ^ p, hand, by have := Nat.two_pow_pos p; omega, p2_lt p1, fun e => j1 ?_⟩
  rw [← e, spr_of_sub x n nb hand, Nat.testBit_or, Bool.or_eq_true]
  right
  rw [hrs_bit]
  have hnp : p ≠ j := fun e => j1 (by rw [← e]; exact p2)
  have hb : (nb j).testBit p = true := by rw [h.2.2.1 j p (by omega) (by omega)]; exact p3
  have hv : nb j &&& 2 ^ p = 2 ^ p := by
    rw [Nat.and_comm]
    exact sub_and.mp (fun i q => by
      rw [Nat.testBit_two_pow] at q
      have : p = i := by simpa using q
      rw [← this]; exact hb)
  have hc : ∀ m, cnt (2 ^ p) m = if p < m then 1 else 0 := by
    intro m
    induction m with
    | zero => rfl
    | succ m ih =>
      show cnt (2 ^ p) m + (if (2 ^ p).testBit m then 1 else 0) = _
      rw [ih, Nat.testBit_two_pow]
      by_cases c : p = m
      · subst c; simp
      · by_cases d : p < m
        · rw [if_pos d, if_pos (show p < m + 1 by omega)]; simp [c]
        · rw [if_neg d, if_neg (show ¬ p < m + 1 by omega)]; simp [c]
  unfold hP
  rw [hv, hc, if_pos p1, Nat.testBit_two_pow]
  rcases hx with rfl | rfl
  · rw [if_pos rfl]; simp [hj, hnp]
  · rw [if_neg (by decide)]; simp [hj, hnp]
theorem cnt_gt {k q n : Nat} (h : sub k q) (hne : k ≠ q) (hq : q < 2 ^ n) : cnt k n < cnt q n := by
  obtain ⟨i, i1, i2⟩ := ne_bit h hne
  exact cnt_lt h i1 i2 n (bit_lt hq i2)
/-! the component -/
def lP (x : Int32) (n : Nat) (nb : Nat → Nat) (f0 : Nat) (f : Nat → Int32) (j : Nat) : Prop := ∀ q, q < 2 ^ n → j ≤ q → sub f0 q → sub q (rch n nb f0) → ∃ w, f q = nI w ∧ isd x n nb (rch n nb f0) q w ∧ w + cnt q n ≤ n
theorem xl_subs {x : Int32} (hx : x = 0 ∨ x = 1) {n : Nat} {nb : Nat → Nat} (h : iN n nb) {Q : Nat → Int32} (hQ : ∀ t, t < 2 ^ n → Q t = nI (hea x n nb t)) {f0 k : Nat} (hf0 : f0 < 2 ^ n) (hk : k < 2 ^ n) (h1 : sub f0 k) (h2 : sub k (rch n nb f0)) {f : Nat → Int32} (hf : lP x n nb f0 f (k + 1)) :
    ∀ (m t b : Nat), t + 1 ≤ m → t &&& k = t → b ≤ 8 → ∃ b', fX3_fewestBehindOneRound_c5 Q f m (nI k) (nI b) (nI t) = some (nI b') ∧ b' ≤ 8 ∧ ∀ v, b' ≤ v ↔ (b ≤ v ∨ ∃ t', t' ≤ t ∧ t' ≠ 0 ∧ t' &&& k = t' ∧ spr x n nb k t' ≠ k ∧ can x n nb (rch n nb f0) v (spr x n nb k t')) := by
  have hn := h.1
  have h8 := pow8 hn
  have hst := rch_stp h hf0
  intro m
  induction m with
  | zero => intro t b h1; omega
  | succ m ih =>
    intro t b g1 g2 g3
    have htk : t ≤ k := by rw [← g2]; exact Nat.and_le_right
    rw [fX3_fewestBehindOneRound_c5]
    unfold fX3_fewestBehindOneRound_c37
    by_cases z : t = 0
    · subst z
      rw [if_pos (by decide)]
      refine ⟨b, rfl, g3, fun v => ⟨Or.inl, fun w => w.elim id ?_⟩⟩
      rintro ⟨t', a1, a2, -⟩
      omega
    · have hq0 : spr x n nb k t < 2 ^ n := spr_lt hk
      have hx' : (t - 1) &&& k < t := Nat.lt_of_le_of_lt Nat.and_le_left (by omega)
      have hnx : ∀ t', t' ≤ t → t' &&& k = t' → t' = t ∨ t' ≤ (t - 1) &&& k := by
        intro t' a1 a2
        by_cases c : t' = t
        · exact Or.inl c
        · exact Or.inr (sub_next n t k t' (by omega) g2 a2 (by omega))
      rw [if_neg (nI_nle (by omega) (by omega)), ldx_n (by omega) (by decide), hQ t (by omega), nI_or, nI_dec (by omega), nI_and, bnd_i, ← spr_of_sub x n nb g2]
      by_cases e : spr x n nb k t = k
      · rw [if_pos (by rw [e])]
        obtain ⟨b', b1, b2, b3⟩ := ih ((t - 1) &&& k) b (by omega) (by rw [Nat.and_assoc, Nat.and_self]) g3
        refine ⟨b', b1, b2, fun v => ?_⟩
        rw [b3 v]
        constructor
        · rintro (w | ⟨t', a1, a2⟩)
          · exact Or.inl w
          · exact Or.inr ⟨t', by omega, a2⟩
        · rintro (w | ⟨t', a1, a2, a3, a4, a5⟩)
          · exact Or.inl w
          · rcases hnx t' a1 a3 with c | c
            · subst c; exact absurd e a4
            · exact Or.inr ⟨t', c, a2, a3, a4, a5⟩
      · have hsub := spr_sub x n nb k t
        have hgt : k < spr x n nb k t := by have := sub_le hsub; omega
        obtain ⟨w, w1, w2, w3⟩ := hf _ hq0 (by omega) (sub_tr h1 hsub) (spr_in hx h hst h2)
        rw [if_neg (fun y => e ((nI_eq (by omega) (by omega)).mp y)), ldx_n (by omega) (by decide), w1, bnd_i]
        have hmin : (if nI w < nI b then nI w else nI b) = nI (min w b) := by
          by_cases y : w < b
          · rw [if_pos (nI_lt y (by omega)), show min w b = w by omega]
          · rw [if_neg (nI_nlt (by omega) (by omega)), show min w b = b by omega]
        rw [hmin, bnd_i]
        obtain ⟨b', b1, b2, b3⟩ := ih ((t - 1) &&& k) (min w b) (by omega) (by rw [Nat.and_assoc, Nat.and_self]) (by omega)
        refine ⟨b', b1, b2, fun v => ?_⟩
        rw [b3 v]
        constructor
        · rintro (y | ⟨t', a1, a2⟩)
          · by_cases c : b ≤ v
            · exact Or.inl c
            · exact Or.inr ⟨t, Nat.le_refl _, z, g2, e, (w2 v).mpr (by omega)⟩
          · exact Or.inr ⟨t', by omega, a2⟩
        · rintro (y | ⟨t', a1, a2, a3, a4, a5⟩)
          · exact Or.inl (by omega)
          · rcases hnx t' a1 a3 with c | c
            · subst c
              have := (w2 v).mp a5
              exact Or.inl (by omega)
            · exact Or.inr ⟨t', c, a2, a3, a4, a5⟩
theorem xl_one {x : Int32} (hx : x = 0 ∨ x = 1) {n : Nat} {nb : Nat → Nat} (h : iN n nb) {Q : Nat → Int32} (hQ : ∀ t, t < 2 ^ n → Q t = nI (hea x n nb t)) {f0 k : Nat} (hf0 : f0 < 2 ^ n) (hk : k < 2 ^ n) (h1 : sub f0 k) (h2 : sub k (rch n nb f0)) (hne : k ≠ rch n nb f0) {f : Nat → Int32} (hf : lP x n nb f0 f (k + 1)) :
    ∃ b, fX3_fewestBehindOneRound Q f (nI k) = some (nI b) ∧ isd x n nb (rch n nb f0) k (1 + b) ∧ 1 + b + cnt k n ≤ n := by
  have hn := h.1
  have h8 := pow8 hn
  have hst := rch_stp h hf0
  obtain ⟨b, b1, b2, b3⟩ := xl_subs hx h hQ hf0 hk h1 h2 hf FU k 8 (by unfold FU; omega) (Nat.and_self k) (Nat.le_refl 8)
  obtain ⟨t0, t1, t2, t3, t4⟩ := conn hx h hf0 h1 h2 hne
  have htk : t0 ≤ k := by rw [← t1]; exact Nat.and_le_right
  have hsub := spr_sub x n nb k t0
  have hgt : k < spr x n nb k t0 := by have := sub_le hsub; omega
  have hq0 : spr x n nb k t0 < 2 ^ n := spr_lt hk
  obtain ⟨w, w1, w2, w3⟩ := hf _ hq0 (by omega) (sub_tr h1 hsub) (spr_in hx h hst h2)
  have hcg := cnt_gt hsub (Ne.symm t4) hq0
  have hbw : b ≤ w := (b3 w).mpr (Or.inr ⟨t0, htk, t2, t1, t4, (w2 w).mpr (Nat.le_refl _)⟩)
  refine ⟨b, b1, fun v => ⟨fun y => ?_, fun y => ?_⟩, by omega⟩
  · obtain ⟨s, u, u1, u2, u3, u4⟩ := can_go hne v y
    rw [spr_and] at u3 u4
    have : b ≤ u := (b3 u).mpr (Or.inr ⟨s &&& k, Nat.and_le_right, fun c => u3 (by rw [c, spr_0 hx]), by rw [Nat.and_assoc, Nat.and_self], u3, u4⟩)
    omega
  · rcases (b3 b).mp (Nat.le_refl _) with c | ⟨t', a1, a2, a3, a4, a5⟩
    · omega
    · exact can_le hx (show can x n nb (rch n nb f0) (b + 1) k from ⟨t', by omega, a5⟩) v (by omega)
theorem andn_z {k g : Nat} (hk : k < 2 ^ 31) : nI k &&& (nI g ^^^ (-1)) = 0 ↔ sub k g := by
  rw [nI_andn]
  have hlt : k &&& (g ^^^ 4294967295) < 2 ^ 31 := Nat.lt_of_le_of_lt Nat.and_le_left hk
  constructor
  · intro e
    have e0 := (nI_eq (b := 0) hlt (by decide)).mp e
    intro i q
    have := andn_bit (x := k) (y := g) (by omega) i
    rw [e0, Nat.zero_testBit, q, Bool.true_and] at this
    simpa using this.symm
  · intro e
    have : k &&& (g ^^^ 4294967295) = 0 := by
      apply Nat.eq_of_testBit_eq
      intro i
      rw [andn_bit (by omega), Nat.zero_testBit]
      cases q : k.testBit i
      · rfl
      · rw [e i q]; rfl
    rw [this]; rfl
theorem and_is {k g : Nat} (hk : k < 2 ^ 31) (hg : g < 2 ^ 31) : nI k &&& nI g = nI g ↔ sub g k := by
  rw [nI_and, nI_eq (Nat.lt_of_le_of_lt Nat.and_le_left hk) hg, sub_and, Nat.and_comm]
theorem xl_down {x : Int32} (hx : x = 0 ∨ x = 1) {n : Nat} {nb : Nat → Nat} (h : iN n nb) {Q : Nat → Int32} (hQ : ∀ t, t < 2 ^ n → Q t = nI (hea x n nb t)) {f0 : Nat} (hf0 : f0 < 2 ^ n) (hz : 0 < f0) :
    ∀ (m j : Nat) (f : Nat → Int32), f0 ≤ j → j ≤ rch n nb f0 → j + 1 ≤ f0 + m → lP x n nb f0 f j → ∃ f', fX3_findFewest_c11 Q m f (nI f0) (nI (rch n nb f0)) (nI j - 1) = some f' ∧ lP x n nb f0 f' f0 := by
  have hn := h.1
  have h8 := pow8 hn
  have hg := rch_lt h hf0
  intro m
  induction m with
  | zero => intro j f h0 h1 h2; omega
  | succ m ih =>
    intro j f h0 h1 h2 h3
    rw [fX3_findFewest_c11, nI_dec (by omega)]
    by_cases q : j = f0
    · subst q
      rw [if_pos (nI_lt (by omega) (by omega))]
      exact ⟨f, rfl, h3⟩
    · obtain ⟨k, rfl⟩ : ∃ k, j = k + 1 := ⟨j - 1, by omega⟩
      have hk : k < 2 ^ n := by omega
      have hm1 : nI k + (-1) = nI k - 1 := by rw [Int32.sub_eq_add_neg]
      have hskip : ¬ (sub f0 k ∧ sub k (rch n nb f0)) → lP x n nb f0 f k := by
        intro w q hq1 hq2 hq3 hq4
        by_cases c : q = k
        · subst c; exact absurd ⟨hq3, hq4⟩ w
        · exact h3 q hq1 (by omega) hq3 hq4
      rw [show k + 1 - 1 = k by omega, if_neg (nI_nlt (by omega) (by omega)), hm1]
      by_cases c1 : sub f0 k
      · rw [if_pos ((and_is (by omega) (by omega)).mpr c1)]
        by_cases c2 : sub k (rch n nb f0)
        · rw [if_pos ((andn_z (by omega)).mpr c2)]
          obtain ⟨b, b1, b2, b3⟩ := xl_one hx h hQ hf0 hk c1 c2 (by omega) h3
          rw [b1, bd1_i, sti_n (by omega) (by decide)]
          refine ih k _ (by omega) (by omega) (by omega) (fun q hq1 hq2 hq3 hq4 => ?_)
          by_cases c : q = k
          · subst c
            exact ⟨1 + b, by rw [upd_eq, show (1 : Int32) = nI 1 from rfl, nI_add], b2, b3⟩
          · rw [upd_ne _ _ c]; exact h3 q hq1 (by omega) hq3 hq4
        · rw [if_neg (fun w => c2 ((andn_z (by omega)).mp w))]
          exact ih k f (by omega) (by omega) (by omega) (hskip (fun w => c2 w.2))
      · rw [if_neg (fun w => c1 ((and_is (by omega) (by omega)).mp w))]
        exact ih k f (by omega) (by omega) (by omega) (hskip (fun w => c1 w.1))
theorem xl_of {x : Int32} (hx : x = 0 ∨ x = 1) {n : Nat} {nb : Nat → Nat} (h : iN n nb) {Q : Nat → Int32} (hQ : ∀ t, t < 2 ^ n → Q t = nI (hea x n nb t)) {f0 : Nat} (hf0 : f0 < 2 ^ n) (hz : 0 < f0) (f : Nat → Int32) : ∃ f', fX3_findFewest Q f (nI f0) (nI (rch n nb f0)) = some f' ∧ lP x n nb f0 f' f0 := by
  have hn := h.1
  have h8 := pow8 hn
  have hg := rch_lt h hf0
  unfold fX3_findFewest
  rw [sti_n (by omega) (by decide)]
  refine xl_down hx h hQ hf0 hz FU (rch n nb f0) _ (sub_le (rch_sub n nb f0)) (Nat.le_refl _) (by unfold FU; omega) (fun q q1 q2 q3 q4 => ?_)
  have : q = rch n nb f0 := by have := sub_le q4; omega
  subst this
  refine ⟨0, by rw [upd_eq]; rfl, isd_G hx, ?_⟩
  have := cnt_le (rch n nb f0) n
  omega
/-! the reference -/
theorem nN (v : Nat) (h : v < 2 ^ 31) : ¬ nI v = -1000000 := fun e => by
  have := congrArg Int32.toInt e
  rw [nI_toInt h, show (-1000000 : Int32).toInt = -1000000 from by decide] at this
  omega
def lG (x : Int32) (n : Nat) (nb : Nat → Nat) (G : Nat) (f : Nat → Int32) : Prop := f G = 0 ∧ ∀ k, k < 2 ^ n → f k = -1000000 ∨ ∃ v, f k = nI v ∧ can x n nb G v k ∧ v + cnt k n ≤ n
def lok (x : Int32) (n : Nat) (nb : Nat → Nat) (f : Nat → Int32) (k s : Nat) : Prop := f (spr x n nb k s) = -1000000 ∨ ∃ v w, f (spr x n nb k s) = nI v ∧ f k = nI w ∧ v ≤ 8 ∧ w ≤ 9 ∧ w ≤ v + 1
def lC (x : Int32) (n : Nat) (nb : Nat → Nat) (G : Nat) (f : Nat → Int32) (k s : Nat) : Prop := ∀ k' s', s' < 2 ^ n → (k' < k ∨ (k' = k ∧ s' < s)) → k' ≠ G → lok x n nb f k' s'
def wt (z : Int32) : Nat := if z = -1000000 then 20 else z.toNatClampNeg
def ms (n : Nat) (f : Nat → Int32) : Nat := sm (fun k => wt (f k)) (2 ^ n)
theorem sm_mono {f g : Nat → Nat} : ∀ {n : Nat}, (∀ i, i < n → f i ≤ g i) → sm f n ≤ sm g n
  | 0, _ => Nat.le_refl 0
  | n + 1, h => by
    have a := sm_mono (n := n) (fun i hi => h i (by omega))
    have b := h n (by omega)
    unfold sm; omega
theorem sm_less {f g : Nat → Nat} {j : Nat} : ∀ {n : Nat}, j < n → (∀ i, i < n → f i ≤ g i) → f j < g j → sm f n < sm g n
  | 0, hj, _, _ => by omega
  | n + 1, hj, h, hl => by
    unfold sm
    have b := h n (by omega)
    by_cases q : j = n
    · subst q
      have a := sm_mono (n := j) (fun i hi => h i (by omega))
      omega
    · have a := sm_less (n := n) (j := j) (by omega) (fun i hi => h i (by omega)) hl
      omega
theorem ms_put {n : Nat} {f : Nat → Int32} {k : Nat} (hk : k < 2 ^ n) {z : Int32} (h : wt z < wt (f k)) : ms n (upd f k z) < ms n f := by
  unfold ms
  refine sm_less hk (fun i _ => ?_) ?_
  · by_cases c : i = k
    · subst c; rw [upd_eq]; omega
    · rw [upd_ne _ _ c]; exact Nat.le_refl _
  · show wt (upd f k z k) < wt (f k)
    rw [upd_eq]; exact h
theorem wt_n {v : Nat} (h : v < 2 ^ 31) : wt (nI v) = v := by unfold wt; rw [if_neg (nN v h), nI_clamp h]
def lPr (n : Nat) (f0 f : Nat → Int32) (more : Int32) : Prop := (more = 0 ∧ f = f0) ∨ (more = 1 ∧ ms n f < ms n f0)
abbrev K43 := (Nat → Int32) → Int32 → Int32 → Int32 → Int32 → Option ((Nat → Int32))
abbrev K34 := (Nat → Int32) → Int32 → Int32 → Int32 → Option ((Nat → Int32))
theorem ml_in {n : Nat} {nb : Nat → Nat} (h : iN n nb) {F : Nat → Int32} (hF : ∀ i, i < 8 → F i = nI (nb i)) {x : Int32} (hx : x = 0 ∨ x = 1) (k34 : K34) (k43 : K43) {G k : Nat} (hG : G < 2 ^ n) (hk : k < 2 ^ n) {f0 : Nat → Int32} :
    ∀ (m s : Nat) (f : Nat → Int32) (more : Int32), s ≤ 2 ^ n → 2 ^ n + 1 ≤ s + m → lG x n nb G f → lPr n f0 f more → (more = 0 → lC x n nb G f0 k s) →
    ∃ (f' : Nat → Int32) (more' : Int32), fX7_findFewest_c55 (nI n) F k34 k43 m f x (nI G) more (nI k) (nI s) = k43 f' x (nI G) more' (nI (k + 1)) ∧ lG x n nb G f' ∧ lPr n f0 f' more' ∧ (more' = 0 → lC x n nb G f0 (k + 1) 0) := by
  have hn := h.1
  have h8 := pow8 hn
  have h2n : 0 < 2 ^ n := Nat.two_pow_pos n
  intro m
  induction m with
  | zero => intro s f more h1 h2; omega
  | succ m ih =>
    intro s f more h1 h2 h3 h4 h5
    rw [fX7_findFewest_c55]
    unfold fX7_all fX7_findFewest_c119
    rw [bd1_i, all_of n (by omega), nI_1, nI_1]
    by_cases q : s = 2 ^ n
    · rw [if_pos (nI_lt (by omega) (by omega))]
      refine ⟨f, more, rfl, h3, h4, fun w k' s' a1 a2 a3 => h5 w k' s' a1 ?_ a3⟩
      omega
    · rw [if_neg (nI_nlt (by omega) (by omega))]
      by_cases c : k = G
      · rw [if_pos (by rw [c])]
        refine ⟨f, more, rfl, h3, h4, fun w k' s' a1 a2 a3 => h5 w k' s' a1 ?_ a3⟩
        omega
      · have hp := spr_lt (h := x) (nb := nb) (s := s) hk
        rw [if_neg (fun w => c ((nI_eq (by omega) (by omega)).mp w)), mspr_of h hF hx hk, bd1_i, ldx_n (by omega) (by decide)]
        have hno : (more = 0 → lok x n nb f k s) → (more = 0 → lC x n nb G f0 k (s + 1)) := by
          intro w e k' s' a1 a2 a3
          by_cases y : k' = k ∧ s' = s
          · rcases h4 with ⟨-, rfl⟩ | ⟨e2, -⟩
            · rw [y.1, y.2]; exact w e
            · rw [e] at e2; exact absurd e2 (by decide)
          · exact h5 e k' s' a1 (by omega) a3
        rcases h3.2 _ hp with e | ⟨v, v1, v2, v3⟩
        · rw [if_pos e]
          exact ih (s + 1) f more (by omega) (by omega) h3 h4 (hno (fun _ => Or.inl e))
        · rw [v1, if_neg (nN v (by omega)), ldx_n (by omega) (by decide), nI_1]
          have hput : ∀ (hlt : v + 1 < wt (f k)) (hd : spr x n nb k s ≠ k), ∃ (f' : Nat → Int32) (more' : Int32), sti 256 f (nI k) (nI (v + 1)) (fun g1 => fX7_findFewest_c55 (nI n) F k34 k43 m g1 x (nI G) 1 (nI k) (nI (s + 1))) = k43 f' x (nI G) more' (nI (k + 1)) ∧ lG x n nb G f' ∧ lPr n f0 f' more' ∧ (more' = 0 → lC x n nb G f0 (k + 1) 0) := by
            intro hlt hd
            rw [sti_n (by omega) (by decide)]
            have hcg := cnt_gt (spr_sub x n nb k s) (Ne.symm hd) hp
            have hms : ms n (upd f k (nI (v + 1))) < ms n f := ms_put hk (by rw [wt_n (by omega)]; exact hlt)
            refine ih (s + 1) _ 1 (by omega) (by omega) ⟨?_, fun i hi => ?_⟩ (Or.inr ⟨rfl, ?_⟩) (fun w => absurd w (by decide))
            · rw [upd_ne _ _ (fun w => c w.symm)]; exact h3.1
            · by_cases y : i = k
              · subst y
                rw [upd_eq]
                exact Or.inr ⟨v + 1, rfl, ⟨s, by omega, v2⟩, by omega⟩
              · rw [upd_ne _ _ y]; exact h3.2 i hi
            · rcases h4 with ⟨-, rfl⟩ | ⟨-, e2⟩
              · exact hms
              · omega
          rcases h3.2 k hk with e | ⟨w, w1, w2, w3⟩
          · rw [if_pos e]
            refine hput (by unfold wt; rw [if_pos e]; omega) (fun y => ?_)
            rw [y, e] at v1
            exact nN v (by omega) v1.symm
          · rw [w1, if_neg (nN w (by omega)), ldx_n (by omega) (by decide), w1]
            by_cases y : w ≤ v + 1
            · rw [if_pos (nI_le y (by omega))]
              exact ih (s + 1) f more (by omega) (by omega) h3 h4 (hno (fun _ => Or.inr ⟨v, w, v1, w1, by omega, by omega, y⟩))
            · rw [if_neg (nI_ge (by omega) (by omega))]
              refine hput (by rw [w1, wt_n (by omega)]; omega) (fun z => ?_)
              rw [z, w1] at v1
              have := (nI_eq (by omega) (by omega)).mp v1
              omega
theorem ml_sets {n : Nat} {nb : Nat → Nat} (h : iN n nb) {F : Nat → Int32} (hF : ∀ i, i < 8 → F i = nI (nb i)) {x : Int32} (hx : x = 0 ∨ x = 1) (k34 : K34) {G : Nat} (hG : G < 2 ^ n) {f0 : Nat → Int32} :
    ∀ (m k : Nat) (f : Nat → Int32) (more : Int32), k ≤ 2 ^ n → 2 ^ n + 1 ≤ k + m → lG x n nb G f → lPr n f0 f more → (more = 0 → lC x n nb G f0 k 0) →
    ∃ (f' : Nat → Int32) (more' : Int32), fX7_findFewest_c43 (nI n) F k34 m f x (nI G) more (nI k) = k34 f' x (nI G) more' ∧ lG x n nb G f' ∧ lPr n f0 f' more' ∧ (more' = 0 → lC x n nb G f0 (2 ^ n) 0) := by
  have hn := h.1
  have h8 := pow8 hn
  have h2n : 0 < 2 ^ n := Nat.two_pow_pos n
  intro m
  induction m with
  | zero => intro k f more h1 h2; omega
  | succ m ih =>
    intro k f more h1 h2 h3 h4 h5
    rw [fX7_findFewest_c43]
    unfold fX7_all
    rw [bd1_i, all_of n (by omega)]
    by_cases q : k = 2 ^ n
    · rw [if_pos (nI_lt (by omega) (by omega))]
      subst q
      exact ⟨f, more, rfl, h3, h4, h5⟩
    · rw [if_neg (nI_nlt (by omega) (by omega))]
      obtain ⟨f', more', e, g1, g2, g3⟩ := ml_in h hF hx k34 (fX7_findFewest_c43 (nI n) F k34 m) hG (k := k) (by omega) FU 0 f more (Nat.zero_le _) (by unfold FU; omega) h3 h4 h5
      rw [show nI 0 = (0 : Int32) from rfl] at e
      rw [e]
      exact ih (k + 1) f' more' (by omega) (by omega) g1 g2 g3
theorem ml_out {n : Nat} {nb : Nat → Nat} (h : iN n nb) {F : Nat → Int32} (hF : ∀ i, i < 8 → F i = nI (nb i)) {x : Int32} (hx : x = 0 ∨ x = 1) {G : Nat} (hG : G < 2 ^ n) :
    ∀ (m : Nat) (f : Nat → Int32), ms n f + 2 ≤ m → lG x n nb G f → ∃ f' : Nat → Int32, fX7_findFewest_c34 (nI n) F m f x (nI G) 1 = some f' ∧ lG x n nb G f' ∧ lC x n nb G f' (2 ^ n) 0 := by
  have hn := h.1
  have h8 := pow8 hn
  intro m
  induction m with
  | zero => intro f h1; omega
  | succ m ih =>
    intro f h1 h2
    rw [fX7_findFewest_c34, if_neg (by decide)]
    obtain ⟨f', more', e, g1, g2, g3⟩ := ml_sets h hF hx (fX7_findFewest_c34 (nI n) F m) hG (f0 := f) FU 0 f 0 (Nat.zero_le _) (by unfold FU; omega) h2 (Or.inl ⟨rfl, rfl⟩) (fun _ k' s' _ a2 _ => by omega)
    rw [show nI 0 = (0 : Int32) from rfl] at e
    rw [e]
    rcases g2 with ⟨rfl, rfl⟩ | ⟨rfl, g2⟩
    · obtain ⟨m', rfl⟩ : ∃ m', m = m' + 1 := ⟨m - 1, by omega⟩
      rw [fX7_findFewest_c34, if_pos rfl]
      exact ⟨f', rfl, h2, g3 rfl⟩
    · exact ih f' (by omega) g1
theorem ml_init {n : Nat} {F : Nat → Int32} {x : Int32} {G : Nat} (hG : G < 256) :
    ∀ (m k : Nat) (f : Nat → Int32), k ≤ 256 → 257 ≤ k + m → (∀ q, q < k → f q = if q = G then 0 else -1000000) → ∃ f' : Nat → Int32, fX7_findFewest_c2 (nI n) F m f x (nI G) (nI k) = fX7_findFewest_c34 (nI n) F FU f' x (nI G) 1 ∧ ∀ q, q < 256 → f' q = if q = G then 0 else -1000000 := by
  intro m
  induction m with
  | zero => intro k f h1 h2; omega
  | succ m ih =>
    intro k f h1 h2 h3
    rw [fX7_findFewest_c2]
    by_cases q : k = 256
    · subst q
      rw [if_pos (show (256 : Int32) ≤ nI 256 from nI_le (Nat.le_refl _) (by decide))]
      exact ⟨f, rfl, h3⟩
    · rw [if_neg (show ¬ (256 : Int32) ≤ nI k from nI_ge (show k < 256 by omega) (by decide))]
      by_cases c : k = G
      · rw [if_pos (by rw [c]), sti_n (by omega) (by decide), nI_1]
        refine ih (k + 1) _ (by omega) (by omega) (fun q hq => ?_)
        by_cases e : q = k
        · subst e; rw [upd_eq, if_pos c]
        · rw [upd_ne _ _ e]; exact h3 q (by omega)
      · rw [if_neg (fun w => c ((nI_eq (by omega) (by omega)).mp w)), sti_n (by omega) (by decide), nI_1]
        refine ih (k + 1) _ (by omega) (by omega) (fun q hq => ?_)
        by_cases e : q = k
        · subst e; rw [upd_eq, if_neg c]
        · rw [upd_ne _ _ e]; exact h3 q (by omega)
/-- the reference's row: each set's number of rounds -/
theorem ml_of {n : Nat} {nb : Nat → Nat} (h : iN n nb) {F : Nat → Int32} (hF : ∀ i, i < 8 → F i = nI (nb i)) {x : Int32} (hx : x = 0 ∨ x = 1) {G : Nat} (hG : G < 2 ^ n) (f : Nat → Int32) : ∃ f' : Nat → Int32, fX7_findFewest (nI n) F f x (nI G) = some f' ∧ ∀ k w, k < 2 ^ n → isd x n nb G k w → f' k = nI w := by
  have hn := h.1
  have h8 := pow8 hn
  obtain ⟨f1, e1, g1⟩ := ml_init (n := n) (F := F) (x := x) (G := G) (by omega) FU 0 f (by decide) (by decide) (fun q hq => by omega)
  have hG1 : lG x n nb G f1 := by
    refine ⟨by rw [g1 G (by omega), if_pos rfl], fun k hk => ?_⟩
    rw [g1 k (by omega)]
    by_cases c : k = G
    · rw [if_pos c]
      refine Or.inr ⟨0, rfl, c, ?_⟩
      have := cnt_le k n
      omega
    · rw [if_neg c]; exact Or.inl rfl
  have hms : ms n f1 ≤ 5120 := by
    have a : ms n f1 ≤ sm (fun _ => 20) (2 ^ n) := sm_mono (fun i hi => by
      show wt (f1 i) ≤ 20
      rw [g1 i (by omega)]
      split
      · decide
      · decide)
    rw [sm_const] at a
    omega
  obtain ⟨f2, e2, g2, g3⟩ := ml_out h hF hx hG FU f1 (by unfold FU; omega) hG1
  rw [show nI 0 = (0 : Int32) from rfl] at e1
  refine ⟨f2, ?_, fun k w hk hw => ?_⟩
  · unfold fX7_findFewest
    rw [e1, e2]
  · have key : ∀ v k, k < 2 ^ n → can x n nb G v k → ∃ w, f2 k = nI w ∧ w ≤ v ∧ w ≤ 9 := by
      intro v
      induction v with
      | zero =>
        intro k hk hc
        have : k = G := hc
        subst this
        exact ⟨0, g2.1, Nat.le_refl _, by omega⟩
      | succ v ih =>
        intro k hk hc
        by_cases c : k = G
        · subst c; exact ⟨0, g2.1, by omega, by omega⟩
        · obtain ⟨s, s1, s2⟩ := hc
          obtain ⟨w', a1, a2, a3⟩ := ih _ (spr_lt hk) s2
          rcases g3 k s s1 (Or.inl hk) c with d | ⟨v', w, d1, d2, d3, d4, d5⟩
          · rw [a1] at d; exact absurd d (nN w' (by omega))
          · rw [a1] at d1
            have := (nI_eq (by omega) (by omega)).mp d1
            exact ⟨w, d2, by omega, d4⟩
    obtain ⟨w', a1, a2, a3⟩ := key w k hk ((hw w).mpr (Nat.le_refl _))
    rcases g2.2 k hk with d | ⟨v, d1, d2, d3⟩
    · rw [a1] at d; exact absurd d (nN w' (by omega))
    · rw [a1] at d1
      have e := (nI_eq (by omega) (by omega)).mp d1
      have := (hw v).mp d2
      rw [a1, show w' = w by omega]
/-! the first set -/
theorem first_set {x : Int32} (hx : x = 0 ∨ x = 1) {n : Nat} {nb : Nat → Nat} (h : iN n nb) {F : Nat → Int32} (hF : ∀ i, i < 8 → F i = nI (nb i)) {Q : Nat → Int32} (hQ : ∀ t, t < 2 ^ n → Q t = nI (hea x n nb t)) {k w : Nat} (hk : k < 2 ^ n) (hw0 : 1 ≤ w) (hw8 : w ≤ 8) (hw : isd x n nb (rch n nb k) k w) {f g : Nat → Int32} (hf : lP x n nb k f k) (hg : ∀ q v, q < 2 ^ n → isd x n nb (rch n nb k) q v → g q = nI v) (hf1 : f k = nI w) :
    ∀ (m m' t : Nat), 1 ≤ t → t ≤ k → k + 1 ≤ t + m → k + 1 ≤ t + m' → (∀ s, s < t → ¬ can x n nb (rch n nb k) (w - 1) (spr x n nb k s)) → ∃ v : Int32, fX3_firstSet_c2 Q f m (nI k) (nI t) = some v ∧ fX7_least_c78 (nI n) F m' 0 g x (nI k) (nI t) = some (v, 0, g) := by
  have hn := h.1
  have h8 := pow8 hn
  have hst := rch_stp h hk
  have hg1 := hg k w hk hw
  obtain ⟨s0, s1, s2⟩ : ∃ s0, s0 ≤ k ∧ can x n nb (rch n nb k) (w - 1) (spr x n nb k s0) := by
    have := (hw w).mpr (Nat.le_refl _)
    obtain ⟨u, rfl⟩ : ∃ u, w = u + 1 := ⟨w - 1, by omega⟩
    obtain ⟨s, a1, a2⟩ := this
    rw [spr_and] at a2
    exact ⟨s &&& k, Nat.and_le_right, a2⟩
  intro m
  induction m with
  | zero => intro m' t h0 h1 h2; omega
  | succ m ih =>
    intro m' t h0 h1 h2 h2' h3
    obtain ⟨M, rfl⟩ : ∃ M, m' = M + 1 := ⟨m' - 1, by omega⟩
    have hsub := spr_sub x n nb k t
    have hp := spr_lt (h := x) (nb := nb) (s := t) hk
    obtain ⟨v, v1, v2, v3⟩ := hf _ hp (sub_le hsub) hsub (spr_in hx h hst (rch_sub n nb k))
    have hgv := hg _ v hp v2
    have hge : w ≤ v + 1 := (hw (v + 1)).mp ⟨t, by omega, (v2 v).mpr (Nat.le_refl _)⟩
    have hnext : ¬ can x n nb (rch n nb k) (w - 1) (spr x n nb k t) → ∃ z : Int32, fX3_firstSet_c2 Q f m (nI k) (nI (t + 1)) = some z ∧ fX7_least_c78 (nI n) F M 0 g x (nI k) (nI (t + 1)) = some (z, 0, g) := by
      intro y
      have h3' : ∀ s, s < t + 1 → ¬ can x n nb (rch n nb k) (w - 1) (spr x n nb k s) := fun s hs => by
        by_cases c : s = t
        · rw [c]; exact y
        · exact h3 s (by omega)
      have : t + 1 ≤ k := by
        rcases Nat.lt_or_ge t k with c | c
        · exact c
        · exact absurd s2 (h3' s0 (by omega))
      exact ih M (t + 1) (by omega) this (by omega) (by omega) h3'
    have hM : fX7_least_c78 (nI n) F (M + 1) 0 g x (nI k) (nI t) = if nI v = nI (w - 1) then some (nI t, 0, g) else fX7_least_c78 (nI n) F M 0 g x (nI k) (nI (t + 1)) := by
      rw [fX7_least_c78, mspr_of h hF hx hk, bd1_i, ldx_n (by omega) (by decide), hgv, ldx_n (by omega) (by decide), hg1, nI_dec hw0, nI_1]
    rw [fX3_firstSet_c2, hM, if_neg (nI_nlt (by omega) (by omega)), nI_1]
    by_cases c : sub t k
    · rw [if_pos ((andn_z (by omega)).mpr c), ldx_n (by omega) (by decide), hQ t (by omega), nI_or, ← spr_of_sub x n nb (sub_and.mp c), ldx_n (by omega) (by decide), v1, ldx_n (by omega) (by decide), hf1]
      by_cases d : w ≤ v
      · rw [if_pos (nI_le d (by omega)), if_neg (fun y => by have := (nI_eq (by omega) (by omega)).mp y; omega)]
        exact hnext (fun y => by have := (v2 _).mp y; omega)
      · rw [if_neg (nI_ge (by omega) (by omega)), if_pos (by rw [show v = w - 1 by omega])]
        exact ⟨nI t, rfl, rfl⟩
    · have hlt : t &&& k < t := by
        have a : t &&& k ≤ t := Nat.and_le_left
        have b : t &&& k ≠ t := fun e => c (sub_and.mpr e)
        omega
      have hnc : ¬ can x n nb (rch n nb k) (w - 1) (spr x n nb k t) := by
        rw [spr_and]; exact h3 _ hlt
      rw [if_neg (fun y => c ((andn_z (by omega)).mp y)), if_neg (fun y => hnc ((v2 _).mpr (by have := (nI_eq (by omega) (by omega)).mp y; omega)))]
      exact hnext hnc
theorem first_0 {x : Int32} (hx : x = 0 ∨ x = 1) {n : Nat} {nb : Nat → Nat} (h : iN n nb) {Q : Nat → Int32} (hQ : ∀ t, t < 2 ^ n → Q t = nI (hea x n nb t)) {k : Nat} (hk : k < 2 ^ n) (hG : k = rch n nb k) (f : Nat → Int32) :
    ∀ (m t : Nat), t ≤ k + 1 → k + 2 ≤ t + m → fX3_firstSet_c2 Q f m (nI k) (nI t) = some 0 := by
  have hn := h.1
  have h8 := pow8 hn
  intro m
  induction m with
  | zero => intro t h1 h2; omega
  | succ m ih =>
    intro t h1 h2
    rw [fX3_firstSet_c2]
    by_cases q : t = k + 1
    · subst q; rw [if_pos (nI_lt (by omega) (by omega))]
    · rw [if_neg (nI_nlt (by omega) (by omega)), nI_1]
      by_cases c : sub t k
      · have hst := rch_stp h hk
        have e : spr x n nb k t = k := spr_end hx h (by rw [← hG] at hst; exact hst)
        rw [if_pos ((andn_z (by omega)).mpr c), ldx_n (by omega) (by decide), hQ t (by omega), nI_or, ← spr_of_sub x n nb (sub_and.mp c), e, ldx_n (by omega) (by decide), ldx_n (by omega) (by decide), if_pos (Int32.le_refl _)]
        exact ih (t + 1) (by omega) (by omega)
      · rw [if_neg (fun y => c ((andn_z (by omega)).mp y))]
        exact ih (t + 1) (by omega) (by omega)
theorem st_least {B_latestFinding : Int32} {B_latestFault : Int32} {S_lanes : Nat → Int32} {S_sizes : Nat → Int32} {S_rows : Nat → Nat → Int32} {N_posts : Int32} {N_neighbours : Nat → Int32} {R_length : Int32} {R_tape : Nat → Int32} {T_size : Int32} {T_rounds : Nat → Int32} {K_length : Int32} {K_begun : Nat → Int32} {M_status : Int32} {M_posts : Int32} {M_rounds : Int32} {M_taped : Int32} {M_latest : Int32} {M_traced : Int32} {M_lane : Nat → Int32} {M_many : Nat → Int32} {M_item : Nat → Int32} {M_beside : Nat → Int32} {M_round : Nat → Int32} {M_tape : Nat → Int32} {M_trace : Nat → Int32} (hI : Inv B_latestFinding B_latestFault S_lanes S_sizes S_rows N_posts N_neighbours R_length R_tape T_size T_rounds K_length K_begun M_status M_posts M_rounds M_taped M_latest M_traced M_lane M_many M_item M_beside M_round M_tape M_trace) (p0 : Int32) (p1 : Int32) (p2 : Int32) (Q_heard : Nat → Int32) (Q_fewest : Nat → Int32) (M_thrown : Int32) (M_fewest : Nat → Int32) : ∃ (rr : Int32) (Q_heard_z : Nat → Int32) (Q_fewest_z : Nat → Int32) (M_thrown_z : Int32) (M_fewest_z : Nat → Int32), fX6_least N_posts N_neighbours Q_heard Q_fewest p0 p1 p2 = some (rr, Q_heard_z, Q_fewest_z) ∧ fX7_least M_thrown M_posts M_beside M_fewest p0 p1 p2 = some (rr, M_thrown_z, M_fewest_z) ∧ Inv B_latestFinding B_latestFault S_lanes S_sizes S_rows N_posts N_neighbours R_length R_tape T_size T_rounds K_length K_begun M_status M_posts M_rounds M_taped M_latest M_traced M_lane M_many M_item M_beside M_round M_tape M_trace := by
  obtain ⟨n, nb, ⟨hN, eN, eM, h4⟩, hS, hT, hTT, hTr, e1, e2⟩ := id hI
  have hn := hN.1
  have hFX : ∀ i, i < 8 → N_neighbours i = nI (nb i) := fun i hi => (h4 i hi).1
  have hFM : ∀ i, i < 8 → M_beside i = nI (nb i) := fun i hi => (h4 i hi).2
  rcases hear_cases p0 with ⟨hx, ha1, ha2⟩ | ⟨ha1, ha2⟩
  case inr =>
    refine ⟨-1000001, Q_heard, Q_fewest, 0, M_fewest, ?_, ?_, hI⟩
    · unfold fX6_least
      rw [ha1, bd1_i, if_pos rfl]
    · unfold fX7_least
      rw [ha2, bd1_i, if_pos rfl]
  rcases set_cases p1 hn with ⟨k, hk, rfl, hb1, hb2⟩ | ⟨hb1, hb2⟩
  case inr =>
    refine ⟨-1000001, Q_heard, Q_fewest, 0, M_fewest, ?_, ?_, hI⟩
    · unfold fX6_least
      rw [ha1, bd1_i, if_neg (by decide), eN]
      by_cases c : p1 = 0
      · rw [if_pos c]
      · rw [if_neg c, hb1, bd1_i, if_pos rfl]
    · unfold fX7_least
      rw [ha2, bd1_i, if_neg (by decide), eM, hb2, bd1_i, if_pos rfl]
  have h8 := pow8 hn
  by_cases hz : k = 0
  · subst hz
    refine ⟨-1000001, Q_heard, Q_fewest, 0, M_fewest, ?_, ?_, hI⟩
    · unfold fX6_least
      rw [ha1, bd1_i, if_neg (by decide), if_pos nI_0]
    · unfold fX7_least
      rw [ha2, bd1_i, if_neg (by decide), eM, hb2, bd1_i, if_neg (by decide), if_pos nI_0]
  have hkz : ¬ nI k = 0 := nI_ne0 (by omega) (by omega)
  rcases rng_cases p2 2 (by decide) with ⟨u, hu, rfl⟩ | hp
  case inr =>
    refine ⟨-1000001, Q_heard, Q_fewest, 0, M_fewest, ?_, ?_, hI⟩
    · unfold fX6_least
      rw [ha1, bd1_i, if_neg (by decide), if_neg hkz, eN, hb1, bd1_i, if_neg (by decide)]
      by_cases c0 : p2 < 0
      · rw [if_pos c0]
      · have c8 := hp.resolve_left c0
        rw [if_neg c0, if_neg]
        intro w
        rw [i32_le, show (1 : Int32).toInt = 1 from rfl] at w
        rw [i32_le, nI_toInt (by decide)] at c8
        omega
    · unfold fX7_least
      have hin : fX7_in p2.toInt64 0 1 = some 0 := in_k_f (k := 2) hp (by decide)
      rw [ha2, bd1_i, if_neg (by decide), eM, hb2, bd1_i, if_neg (by decide), if_neg hkz, hin, bd1_i, if_pos rfl]
  have hin : fX7_in (nI u).toInt64 0 1 = some 1 := by
    rw [z64, show (1 : Int64) = (nI 1).toInt64 from rfl, in_t (nI_pos (by omega)) (nI_nlt (by omega) (by omega))]
  have hle : nI u ≤ (1 : Int32) := nI_le (show u ≤ 1 by omega) (by decide)
  obtain ⟨Q', l1, l2⟩ := listen_of hN hFX hx Q_heard
  obtain ⟨f, f1, f2⟩ := xl_of hx hN l2 hk (by omega) Q_fewest
  obtain ⟨g, g1, g2⟩ := ml_of hN hFM hx (rch_lt hN hk) M_fewest
  obtain ⟨w, w1, w2, w3⟩ := f2 k hk (Nat.le_refl _) (sub_rf k) (rch_sub n nb k)
  have hgw := g2 k w hk w2
  have hX : fX6_least N_posts N_neighbours Q_heard Q_fewest p0 (nI k) (nI u) = (if nI u = 0 then bd1 (fX3_fewestFrom f (nI k)) (fun r19 => some (r19, Q', f)) else bd1 (fX3_firstSet Q' f (nI k)) (fun r17 => some (r17, Q', f))) := by
    unfold fX6_least
    rw [ha1, bd1_i, if_neg (by decide), if_neg hkz, eN, hb1, bd1_i, if_neg (by decide), if_neg (nI_pos (by omega)), if_pos hle, l1, bd1_i, xreach_of hN hFX hk, bd1_i, f1, bd1_i]
  have hM : fX7_least M_thrown M_posts M_beside M_fewest p0 (nI k) (nI u) = (if nI u = 0 then fX7_least_c60 (nI n) M_beside 0 g (nI k) (nI u) else (if nI w = 0 then fX7_least_c60 (nI n) M_beside 0 g (nI k) (nI u) else fX7_least_c78 (nI n) M_beside FU 0 g p0 (nI k) 0)) := by
    unfold fX7_least
    rw [ha2, bd1_i, if_neg (by decide), eM, hb2, bd1_i, if_neg (by decide), if_neg hkz, hin, bd1_i, if_neg (by decide), mreach_of hN hFM hk, bd1_i, g1, bd1_i, ldx_n (by omega) (by decide), hgw]
  rw [hX, hM]
  unfold fX7_least_c60 fX3_fewestFrom fX3_firstSet
  by_cases c0 : nI u = 0
  · rw [if_pos c0, if_pos c0, if_pos c0, ldx_n (by omega) (by decide), ldx_n (by omega) (by decide), w1, hgw, bd1_i]
    exact ⟨nI w, Q', f, 0, g, rfl, rfl, hI⟩
  · rw [if_neg c0, if_neg c0, if_neg c0]
    by_cases cw : w = 0
    · subst cw
      rw [if_pos nI_0]
      have hG : k = rch n nb k := (w2 0).mpr (Nat.le_refl _)
      have := first_0 hx hN l2 hk hG f FU 1 (by omega) (by unfold FU; omega)
      rw [show nI 1 = (1 : Int32) from rfl] at this
      rw [this, bd1_i]
      exact ⟨0, Q', f, 0, g, rfl, rfl, hI⟩
    · rw [if_neg (nI_ne0 (by omega) (by omega))]
      have hnot0 : ¬ can p0 n nb (rch n nb k) (w - 1) (spr p0 n nb k 0) := by
        rw [spr_0 hx]
        intro y
        have := (w2 _).mp y
        omega
      obtain ⟨v, v1, v2⟩ := first_set hx hN hFM l2 hk (by omega) (by omega) w2 f2 g2 w1 FU 99999 1 (Nat.le_refl _) (by omega) (by unfold FU; omega) (by omega) (fun s hs => by rw [show s = 0 by omega]; exact hnot0)
      have hM0 : fX7_least_c78 (nI n) M_beside FU 0 g p0 (nI k) 0 = fX7_least_c78 (nI n) M_beside 99999 0 g p0 (nI k) (nI 1) := by
        rw [show FU = 99999 + 1 from by decide, fX7_least_c78, show (0 : Int32) = nI 0 from rfl, mspr_of hN hFM hx hk, bd1_i, spr_0 hx, ldx_n (by omega) (by decide), ldx_n (by omega) (by decide), hgw, nI_dec (by omega), if_neg (fun y => by have := (nI_eq (by omega) (by omega)).mp y; omega), nI_1]
      rw [show nI 1 = (1 : Int32) from rfl] at v1
      rw [v1, bd1_i, hM0, v2]
      exact ⟨v, Q', f, 0, g, rfl, rfl, hI⟩
