/-! steps: set, copy -/
theorem hp_t {S_sizes : Nat → Int32} {j k a m : Nat} (hj : j < 8) (ek : S_sizes j = nI k) (hk : k ≤ 40) (h : a + m ≤ k) : fX4_hasPlaces S_sizes (nI j) (nI a) (nI m) = some 1 := by
  unfold fX4_hasPlaces
  rw [if_neg (nI_pos (by omega)), if_neg (nI_pos (by omega)), ldx_n hj (by decide), ek, if_neg (nI_nlt (by omega) (by omega)), ldx_n hj (by decide), ek, pk_sub (by omega), if_neg (nI_nlt (by omega) (by omega))]
theorem hp_f {S_sizes : Nat → Int32} {j k : Nat} (hj : j < 8) (ek : S_sizes j = nI k) (hk : k ≤ 40) (p1 p2 : Int32) (h : ¬ (0 ≤ p1.toInt ∧ 0 ≤ p2.toInt ∧ p1.toInt + p2.toInt ≤ k)) : fX4_hasPlaces S_sizes (nI j) p1 p2 = some 0 := by
  unfold fX4_hasPlaces
  by_cases h1 : p1 < 0
  · rw [if_pos h1]
  rw [if_neg h1]
  by_cases h2 : p2 < 0
  · rw [if_pos h2]
  rw [if_neg h2, ldx_n hj (by decide), ek]
  have h1' : 0 ≤ p1.toInt := by rw [i32_lt, show (0 : Int32).toInt = 0 from rfl] at h1; omega
  have h2' : 0 ≤ p2.toInt := by rw [i32_lt, show (0 : Int32).toInt = 0 from rfl] at h2; omega
  by_cases h3 : nI k < p1
  · rw [if_pos h3]
  rw [if_neg h3, ldx_n hj (by decide), ek]
  obtain ⟨a, ha, rfl⟩ : ∃ a : Nat, a ≤ k ∧ p1 = nI a := nI_of2 (M := nI k) (n := k) (nI_toInt (by omega)) h1 (by rw [i32_lt] at h3; rw [i32_le]; omega)
  rw [pk_sub ha, if_pos]
  rw [i32_lt, nI_toInt (by omega)]
  rw [nI_toInt (by omega)] at h
  omega
/-- what findPlaces finds of a sheet that is there -/
theorem fp_at {S_lanes S_sizes : Nat → Int32} {j : Nat} (hj : j < 8) (hm : ¬ S_lanes j = -1) (p1 p2 : Int32) : fX4_findPlaces S_lanes S_sizes (nI j) p1 p2 = bd1 (fX4_hasPlaces S_sizes (nI j) p1 p2) (fun r4 => if r4 = 0 then some 2 else some 0) := by
  unfold fX4_findPlaces fX4_isMissing
  rw [ldx_n hj (by decide), if_neg hm, bd1_i, if_pos rfl]
theorem fp_null {S_lanes S_sizes : Nat → Int32} {j : Nat} (hj : j < 8) (hm : S_lanes j = -1) (p1 p2 : Int32) : fX4_findPlaces S_lanes S_sizes (nI j) p1 p2 = some 1 := by
  unfold fX4_findPlaces fX4_isMissing
  rw [ldx_n hj (by decide), if_pos hm, bd1_i, if_neg (by decide)]
theorem put_rows {S_lanes S_sizes : Nat → Int32} {S_rows : Nat → Nat → Int32} {M_lane M_many M_item : Nat → Int32} (hS : iSh S_lanes S_sizes S_rows M_lane M_many M_item) {j a : Nat} (hj : j < 8) (ha : a < 40) (r : Int32) : iSh S_lanes S_sizes (va_up S_rows j (upd (S_rows j) a r)) M_lane M_many (upd M_item (40 * j + a) r) := by
  intro i hi
  obtain ⟨q1, q2, q3, q4, q5⟩ := hS i hi
  refine ⟨q1, q2, q3, q4, fun t ht => ?_⟩
  by_cases hij : i = j
  · subst hij
    have e : va_up S_rows i (upd (S_rows i) a r) i = upd (S_rows i) a r := by unfold va_up; rw [if_pos rfl]
    rw [e]
    by_cases hta : t = a
    · subst hta; rw [upd_eq, upd_eq]
    · rw [upd_ne _ _ (by omega), upd_ne _ _ hta, q5 t ht]
  · have e : va_up S_rows j (upd (S_rows j) a r) i = S_rows i := by unfold va_up; rw [if_neg hij]
    rw [e, upd_ne _ _ (by omega), q5 t ht]
theorem nar_v (ln v : Int32) : fX4_narrowed ln v = some (if ln = 0 then v.toInt8.toInt32 else if ln = 1 then v.toInt16.toInt32 else v) := by
  unfold fX4_narrowed
  by_cases h : ln = 0
  · rw [if_pos h, if_pos h]
  · rw [if_neg h, if_neg h]
    by_cases h1 : ln = 1
    · rw [if_pos h1, if_pos h1]
    · rw [if_neg h1, if_neg h1]
theorem st_set {B_latestFinding : Int32} {B_latestFault : Int32} {S_lanes : Nat → Int32} {S_sizes : Nat → Int32} {S_rows : Nat → Nat → Int32} {N_posts : Int32} {N_neighbours : Nat → Int32} {R_length : Int32} {R_tape : Nat → Int32} {T_size : Int32} {T_rounds : Nat → Int32} {K_length : Int32} {K_begun : Nat → Int32} {M_status : Int32} {M_posts : Int32} {M_rounds : Int32} {M_taped : Int32} {M_latest : Int32} {M_traced : Int32} {M_lane : Nat → Int32} {M_many : Nat → Int32} {M_item : Nat → Int32} {M_beside : Nat → Int32} {M_round : Nat → Int32} {M_tape : Nat → Int32} {M_trace : Nat → Int32} (hI : Inv B_latestFinding B_latestFault S_lanes S_sizes S_rows N_posts N_neighbours R_length R_tape T_size T_rounds K_length K_begun M_status M_posts M_rounds M_taped M_latest M_traced M_lane M_many M_item M_beside M_round M_tape M_trace) (p0 : Int32) (p1 : Int32) (p2 : Int32) (M_thrown : Int32) : ∃ (rr : Int32) (B_latestFinding_z : Int32) (S_rows_z : Nat → Nat → Int32) (M_thrown_z : Int32) (M_status_z : Int32) (M_item_z : Nat → Int32), fX6_set B_latestFinding S_lanes S_sizes S_rows p0 p1 p2 = some (rr, B_latestFinding_z, S_rows_z) ∧ fX7_set M_thrown M_status M_lane M_many M_item p0 p1 p2 = some (rr, M_thrown_z, M_status_z, M_item_z) ∧ Inv B_latestFinding_z B_latestFault S_lanes S_sizes S_rows_z N_posts N_neighbours R_length R_tape T_size T_rounds K_length K_begun M_status_z M_posts M_rounds M_taped M_latest M_traced M_lane M_many M_item_z M_beside M_round M_tape M_trace := by
  obtain ⟨n, nb, hN, hS, hT, hTT, hTr, e1, e2⟩ := id hI
  rcases sheet_cases p0 with ⟨j, hj, rfl, ha, hb⟩ | ⟨ha, hb⟩
  · obtain ⟨s1, s2, s3, ⟨k, hk, ek⟩, s5⟩ := hS j hj
    rcases lane_neg s2 with ⟨hm, hm2⟩ | ⟨hm, hm2⟩
    · refine ⟨(-1000010 : Int32) - 1, 1, S_rows, 0, 1, M_item, ?_, ?_, ⟨n, nb, hN, hS, hT, hTT, hTr, rfl, e2⟩⟩
      · unfold fX6_set
        rw [ha, bd1_i, if_neg (by decide), fp_null hj hm, bd1_i, if_neg (by decide)]
      · unfold fX7_set fX7_found
        rw [hb, bd1_i, if_neg (by decide), ldx_n hj (by decide), s1, if_neg hm2, bd2_i]
    · rcases rng_cases p1 k (by omega) with ⟨a, hak, rfl⟩ | h
      · generalize hr : (if S_lanes j = 0 then p2.toInt8.toInt32 else if S_lanes j = 1 then p2.toInt16.toInt32 else p2) = r
        refine ⟨r, 0, va_up S_rows j (upd (S_rows j) a r), 0, 0, upd M_item (40 * j + a) r, ?_, ?_, ⟨n, nb, hN, put_rows hS hj (by omega) r, hT, hTT, hTr, rfl, e2⟩⟩
        · unfold fX6_set fX4_put
          rw [ha, bd1_i, if_neg (by decide), fp_at hj hm, show (1 : Int32) = nI 1 from rfl, hp_t hj ek hk (by omega), bd1_i, if_neg (by decide), bd1_i, if_pos rfl, rwx_n hj, ldx_n hj (by decide), nar_v, bd1_i]
          rw [hr, sti_n (by omega) (by decide), bnd_i, rwx_n hj, ldx_n (by omega) (by decide)]
          have e : va_up S_rows j (upd (S_rows j) a r) j = upd (S_rows j) a r := by unfold va_up; rw [if_pos rfl]
          rw [e, upd_eq, bd2_i]
        · unfold fX7_set fX7_set_c99
          rw [hb, bd1_i, if_neg (by decide), ldx_n hj (by decide), s1, if_pos hm2, ldx_n hj (by decide), s3, ek, in_k_t hak (by omega), bd1_i, if_neg (by decide), ldx_n hj (by decide), s1, pl40]
          have hfin : ∀ v : Int32, sti 320 M_item (nI (40 * j + a)) v (fun g1 => ldx 320 g1 (nI (40 * j + a)) (fun v3 => some (v3, (0 : Int32), (0 : Int32), g1))) = some (v, 0, 0, upd M_item (40 * j + a) v) := by
            intro v
            rw [sti_n (by omega) (by decide), ldx_n (by omega) (by decide), upd_eq]
          rw [← hr]
          by_cases h0 : S_lanes j = 0
          · rw [if_pos h0, hfin, if_pos h0]
          · rw [if_neg h0, ldx_n hj (by decide), s1]
            by_cases h1 : S_lanes j = 1
            · rw [if_pos h1, hfin, if_neg h0, if_pos h1]
            · rw [if_neg h1, hfin, if_neg h0, if_neg h1]
      · refine ⟨(-1000010 : Int32) - 2, 2, S_rows, 0, 2, M_item, ?_, ?_, ⟨n, nb, hN, hS, hT, hTT, hTr, rfl, e2⟩⟩
        · unfold fX6_set
          rw [ha, bd1_i, if_neg (by decide), fp_at hj hm, hp_f hj ek hk p1 1 ?_, bd1_i, if_pos rfl, bd1_i, if_neg (by decide)]
          rw [show (1 : Int32).toInt = 1 from rfl]
          rcases h with h | h
          · rw [i32_lt, show (0 : Int32).toInt = 0 from rfl] at h; omega
          · rw [i32_le, nI_toInt (by omega)] at h; omega
        · unfold fX7_set fX7_found
          rw [hb, bd1_i, if_neg (by decide), ldx_n hj (by decide), s1, if_pos hm2, ldx_n hj (by decide), s3, ek, in_k_f h (by omega), bd1_i, if_pos rfl, bd2_i]
  · refine ⟨-1000001, B_latestFinding, S_rows, 0, M_status, M_item, ?_, ?_, hI⟩
    · unfold fX6_set
      rw [ha, bd1_i, if_pos rfl]
    · unfold fX7_set
      rw [hb, bd1_i, if_pos rfl]
/-! copy -/
theorem add64 (x y : Int32) : (x.toInt64 + y.toInt64).toInt = x.toInt + y.toInt := by
  rw [Int64.toInt_add, Int32.toInt_toInt64, Int32.toInt_toInt64]
  have h1 := Int32.toInt_lt x
  have h2 := Int32.le_toInt x
  have h3 := Int32.toInt_lt y
  have h4 := Int32.le_toInt y
  simp only [Int.bmod]
  omega
def cpU (f : Nat → Int32) (src dst k : Nat) : Nat → Int32 := fun q => if dst ≤ q ∧ q < dst + k then f (src + (q - dst)) else f q
def cpD (f : Nat → Int32) (src dst n k : Nat) : Nat → Int32 := fun q => if dst + n - k ≤ q ∧ q < dst + n then f (src + (q - dst)) else f q
theorem cpU_s (f : Nat → Int32) (src dst k : Nat) (h : src + k < dst ∨ dst + k ≤ src + k) : upd (cpU f src dst k) (dst + k) (cpU f src dst k (src + k)) = cpU f src dst (k + 1) := by
  have e : cpU f src dst k (src + k) = f (src + k) := by unfold cpU; rw [if_neg (by omega)]
  rw [e]
  funext q
  unfold upd cpU
  by_cases h1 : q = dst + k
  · subst h1; rw [if_pos rfl, if_pos ⟨by omega, by omega⟩]; congr 1; omega
  · rw [if_neg h1]
    by_cases h2 : dst ≤ q ∧ q < dst + k
    · rw [if_pos h2, if_pos ⟨h2.1, by omega⟩]
    · rw [if_neg h2, if_neg (by omega)]
theorem cpD_s (f : Nat → Int32) (src dst n k : Nat) (hk : k < n) (h : src + (n - 1 - k) < dst + n - k ∨ dst + n ≤ src + (n - 1 - k)) : upd (cpD f src dst n k) (dst + (n - 1 - k)) (cpD f src dst n k (src + (n - 1 - k))) = cpD f src dst n (k + 1) := by
  have e : cpD f src dst n k (src + (n - 1 - k)) = f (src + (n - 1 - k)) := by unfold cpD; rw [if_neg (by omega)]
  rw [e]
  funext q
  unfold upd cpD
  by_cases h1 : q = dst + (n - 1 - k)
  · subst h1; rw [if_pos rfl, if_pos ⟨by omega, by omega⟩]; congr 1; omega
  · rw [if_neg h1]
    by_cases h2 : dst + n - k ≤ q ∧ q < dst + n
    · rw [if_pos h2, if_pos ⟨by omega, h2.2⟩]
    · rw [if_neg h2, if_neg (by omega)]
theorem copy_up (M_lane M_many f : Nat → Int32) {a i b j n : Nat} (ha : a < 8) (hb : b < 8) (hi : i + n ≤ 40) (hj : j + n ≤ 40) (hij : j ≤ i) : ∀ (m k : Nat), k ≤ n → n + 1 ≤ k + m → fX7_copy_c143 M_lane M_many m 0 0 (cpU f (40 * a + i) (40 * b + j) k) (nI a) (nI i) (nI b) (nI j) (nI n) 1 (nI k) = some (nI n, 0, 0, cpU f (40 * a + i) (40 * b + j) n) := by
  intro m
  induction m with
  | zero => intro k h1 h2; omega
  | succ m ih =>
    intro k h1 h2
    rw [fX7_copy_c143]
    by_cases h : k = n
    · subst h; rw [if_pos (nI_le (Nat.le_refl k) (by omega))]
    · rw [if_neg (nI_ge (by omega) (by omega)), if_neg (by decide)]
      unfold fX7_copy_c167
      rw [pl40, pl40, nI_add, nI_add, ldx_n (by omega) (by decide), sti_n (by omega) (by decide), cpU_s _ _ _ _ (by omega), nI_1]
      exact ih (k + 1) (by omega) (by omega)
theorem copy_dn (M_lane M_many f : Nat → Int32) {a i b j n : Nat} (ha : a < 8) (hb : b < 8) (hi : i + n ≤ 40) (hj : j + n ≤ 40) (hij : i < j) : ∀ (m k : Nat), k ≤ n → n + 1 ≤ k + m → fX7_copy_c143 M_lane M_many m 0 0 (cpD f (40 * a + i) (40 * b + j) n k) (nI a) (nI i) (nI b) (nI j) (nI n) 0 (nI k) = some (nI n, 0, 0, cpD f (40 * a + i) (40 * b + j) n n) := by
  intro m
  induction m with
  | zero => intro k h1 h2; omega
  | succ m ih =>
    intro k h1 h2
    rw [fX7_copy_c143]
    by_cases h : k = n
    · subst h; rw [if_pos (nI_le (Nat.le_refl k) (by omega))]
    · rw [if_neg (nI_ge (by omega) (by omega)), if_pos rfl]
      unfold fX7_copy_c167
      have e : nI n - (1 : Int32) - nI k = nI (n - 1 - k) := by
        rw [show (1 : Int32) = nI 1 from rfl, pk_sub (by omega), pk_sub (by omega)]
      rw [e, pl40, pl40, nI_add, nI_add, ldx_n (by omega) (by decide), sti_n (by omega) (by decide), cpD_s _ _ _ _ _ (by omega) (by omega), nI_1]
      exact ih (k + 1) (by omega) (by omega)
theorem copy_rows {S_lanes S_sizes : Nat → Int32} {S_rows : Nat → Nat → Int32} {M_lane M_many M_item g : Nat → Int32} (hS : iSh S_lanes S_sizes S_rows M_lane M_many M_item) {a i b j n : Nat} (ha : a < 8) (hb : b < 8) (hi : i + n ≤ 40) (hj : j + n ≤ 40) (hg : ∀ q, g q = if 40 * b + j ≤ q ∧ q < 40 * b + j + n then M_item (40 * a + i + (q - (40 * b + j))) else M_item q) : iSh S_lanes S_sizes (va_up S_rows b (va_cpy (S_rows a) (S_rows b) i j n)) M_lane M_many g := by
  intro t ht
  obtain ⟨q1, q2, q3, q4, q5⟩ := hS t ht
  refine ⟨q1, q2, q3, q4, fun u hu => ?_⟩
  rw [hg]
  by_cases htb : t = b
  · subst htb
    have e : va_up S_rows t (va_cpy (S_rows a) (S_rows t) i j n) t = va_cpy (S_rows a) (S_rows t) i j n := by unfold va_up; rw [if_pos rfl]
    rw [e]
    by_cases hr : j ≤ u ∧ u < j + n
    · rw [if_pos (by omega), pk_cpy_in hr.1 hr.2, ← (hS a ha).2.2.2.2 (i + (u - j)) (by omega)]
      congr 1; omega
    · rw [if_neg (by omega), pk_cpy_out (by omega), q5 u hu]
  · have e : va_up S_rows b (va_cpy (S_rows a) (S_rows b) i j n) t = S_rows t := by unfold va_up; rw [if_neg htb]
    rw [e, if_neg (by omega), q5 u hu]
theorem fm_null1 {S_lanes S_sizes : Nat → Int32} {a : Nat} (ha : a < 8) (hm : S_lanes a = -1) (p1 p2 p3 p4 : Int32) : fX4_findMove S_lanes S_sizes (nI a) p1 p2 p3 p4 = some 1 := by
  unfold fX4_findMove fX4_isMissing
  rw [ldx_n ha (by decide), if_pos hm, bd1_i, if_neg (by decide)]
theorem fm_null2 {S_lanes S_sizes : Nat → Int32} {a b : Nat} (ha : a < 8) (hb : b < 8) (hm : ¬ S_lanes a = -1) (hm2 : S_lanes b = -1) (p1 p3 p4 : Int32) : fX4_findMove S_lanes S_sizes (nI a) p1 (nI b) p3 p4 = some 1 := by
  unfold fX4_findMove fX4_isMissing
  rw [ldx_n ha (by decide), if_neg hm, bd1_i, if_pos rfl, ldx_n hb (by decide), if_pos hm2, bd1_i, if_neg (by decide)]
theorem fm_at {S_lanes S_sizes : Nat → Int32} {a b : Nat} (ha : a < 8) (hb : b < 8) (hm : ¬ S_lanes a = -1) (hm2 : ¬ S_lanes b = -1) (p1 p3 p4 : Int32) : fX4_findMove S_lanes S_sizes (nI a) p1 (nI b) p3 p4 = (if S_lanes a = S_lanes b then bd1 (fX4_hasPlaces S_sizes (nI a) p1 p4) (fun r12 => (if r12 = 0 then some 2 else bd1 (fX4_hasPlaces S_sizes (nI b) p3 p4) (fun r15 => (if r15 = 0 then some 2 else some 0)))) else some 5) := by
  unfold fX4_findMove fX4_isMissing
  rw [ldx_n ha (by decide), if_neg hm, bd1_i, if_pos rfl, ldx_n hb (by decide), if_neg hm2, bd1_i, if_pos rfl, ldx_n ha (by decide), ldx_n hb (by decide)]
theorem lgc_le (x y : Int64) : lg_cmp x y ≤ 0 ↔ ¬ y < x := by
  rw [← lgc_gt, i32_lt, i32_le]; omega
theorem st_copy {B_latestFinding : Int32} {B_latestFault : Int32} {S_lanes : Nat → Int32} {S_sizes : Nat → Int32} {S_rows : Nat → Nat → Int32} {N_posts : Int32} {N_neighbours : Nat → Int32} {R_length : Int32} {R_tape : Nat → Int32} {T_size : Int32} {T_rounds : Nat → Int32} {K_length : Int32} {K_begun : Nat → Int32} {M_status : Int32} {M_posts : Int32} {M_rounds : Int32} {M_taped : Int32} {M_latest : Int32} {M_traced : Int32} {M_lane : Nat → Int32} {M_many : Nat → Int32} {M_item : Nat → Int32} {M_beside : Nat → Int32} {M_round : Nat → Int32} {M_tape : Nat → Int32} {M_trace : Nat → Int32} (hI : Inv B_latestFinding B_latestFault S_lanes S_sizes S_rows N_posts N_neighbours R_length R_tape T_size T_rounds K_length K_begun M_status M_posts M_rounds M_taped M_latest M_traced M_lane M_many M_item M_beside M_round M_tape M_trace) (p0 : Int32) (p1 : Int32) (p2 : Int32) (p3 : Int32) (p4 : Int32) (M_thrown : Int32) : ∃ (rr : Int32) (B_latestFinding_z : Int32) (S_rows_z : Nat → Nat → Int32) (M_thrown_z : Int32) (M_status_z : Int32) (M_item_z : Nat → Int32), fX6_copy B_latestFinding S_lanes S_sizes S_rows p0 p1 p2 p3 p4 = some (rr, B_latestFinding_z, S_rows_z) ∧ fX7_copy M_thrown M_status M_lane M_many M_item p0 p1 p2 p3 p4 = some (rr, M_thrown_z, M_status_z, M_item_z) ∧ Inv B_latestFinding_z B_latestFault S_lanes S_sizes S_rows_z N_posts N_neighbours R_length R_tape T_size T_rounds K_length K_begun M_status_z M_posts M_rounds M_taped M_latest M_traced M_lane M_many M_item_z M_beside M_round M_tape M_trace := by
  obtain ⟨n, nb, hN, hS, hT, hTT, hTr, e1, e2⟩ := id hI
  rcases sheet_cases p0 with ⟨a, ha, rfl, ha1, ha2⟩ | ⟨ha1, ha2⟩
  case inr =>
    refine ⟨-1000001, B_latestFinding, S_rows, 0, M_status, M_item, ?_, ?_, hI⟩
    · unfold fX6_copy
      rw [ha1, bd1_i, if_pos rfl]
    · unfold fX7_copy
      rw [ha2, bd1_i, if_pos rfl]
  rcases sheet_cases p2 with ⟨b, hb, rfl, hb1, hb2⟩ | ⟨hb1, hb2⟩
  case inr =>
    refine ⟨-1000001, B_latestFinding, S_rows, 0, M_status, M_item, ?_, ?_, hI⟩
    · unfold fX6_copy
      rw [ha1, bd1_i, if_neg (by decide), hb1, bd1_i, if_pos rfl]
    · unfold fX7_copy
      rw [ha2, bd1_i, if_neg (by decide), hb2, bd1_i, if_pos rfl]
  obtain ⟨s1, s2, s3, ⟨k, hk, ek⟩, s5⟩ := hS a ha
  obtain ⟨t1, t2, t3, ⟨k2, hk2, ek2⟩, t5⟩ := hS b hb
  rcases lane_neg s2 with ⟨hm, hm2⟩ | ⟨hm, hm2⟩
  · refine ⟨(-1000010 : Int32) - 1, 1, S_rows, 0, 1, M_item, ?_, ?_, ⟨n, nb, hN, hS, hT, hTT, hTr, rfl, e2⟩⟩
    · unfold fX6_copy
      rw [ha1, bd1_i, if_neg (by decide), hb1, bd1_i, if_neg (by decide), fm_null1 ha hm, bd1_i, if_neg (by decide)]
    · unfold fX7_copy fX7_found
      rw [ha2, bd1_i, if_neg (by decide), hb2, bd1_i, if_neg (by decide), ldx_n ha (by decide), s1, if_pos (by rw [hm]; decide), bd2_i]
  have hm3 : ¬ S_lanes a < 0 := by rw [i32_lt]; rw [i32_le] at hm2; omega
  rcases lane_neg t2 with ⟨gm, gm2⟩ | ⟨gm, gm2⟩
  · refine ⟨(-1000010 : Int32) - 1, 1, S_rows, 0, 1, M_item, ?_, ?_, ⟨n, nb, hN, hS, hT, hTT, hTr, rfl, e2⟩⟩
    · unfold fX6_copy
      rw [ha1, bd1_i, if_neg (by decide), hb1, bd1_i, if_neg (by decide), fm_null2 ha hb hm gm, bd1_i, if_neg (by decide)]
    · unfold fX7_copy fX7_found
      rw [ha2, bd1_i, if_neg (by decide), hb2, bd1_i, if_neg (by decide), ldx_n ha (by decide), s1, if_neg hm3, ldx_n hb (by decide), t1, if_neg gm2, bd2_i]
  have hX : fX6_copy B_latestFinding S_lanes S_sizes S_rows (nI a) p1 (nI b) p3 p4 = bd1 (fX4_findMove S_lanes S_sizes (nI a) p1 (nI b) p3 p4) (fun r7 => (if r7 = 0 then bd1 (fX4_move S_rows (nI a) p1 (nI b) p3 p4) (fun S_rows_10 => some (p4, r7, S_rows_10)) else some ((-1000010 : Int32) - r7, r7, S_rows))) := by
    unfold fX6_copy
    rw [ha1, bd1_i, if_neg (by decide), hb1, bd1_i, if_neg (by decide)]
  unfold fX7_copy
  rw [ha2, bd1_i, if_neg (by decide), hb2, bd1_i, if_neg (by decide), ldx_n ha (by decide), s1, if_neg hm3, ldx_n hb (by decide), t1, if_pos gm2, ldx_n ha (by decide), ldx_n hb (by decide), s1, t1]
  rw [hX, fm_at ha hb hm gm]
  by_cases hl : S_lanes a = S_lanes b
  case neg =>
    rw [if_neg hl, if_neg hl]
    exact ⟨(-1000010 : Int32) - 5, 5, S_rows, 0, 5, M_item, rfl, rfl, ⟨n, nb, hN, hS, hT, hTT, hTr, rfl, e2⟩⟩
  rw [if_pos hl, if_pos hl]
  have hbad : ∃ (rr : Int32) (B_latestFinding_z : Int32) (S_rows_z : Nat → Nat → Int32) (M_thrown_z : Int32) (M_status_z : Int32) (M_item_z : Nat → Int32), (some ((-1000010 : Int32) - 2, (2 : Int32), S_rows) = some (rr, B_latestFinding_z, S_rows_z)) ∧ (some ((-1000010 : Int32) - 2, (0 : Int32), (2 : Int32), M_item) = some (rr, M_thrown_z, M_status_z, M_item_z)) ∧ Inv B_latestFinding_z B_latestFault S_lanes S_sizes S_rows_z N_posts N_neighbours R_length R_tape T_size T_rounds K_length K_begun M_status_z M_posts M_rounds M_taped M_latest M_traced M_lane M_many M_item_z M_beside M_round M_tape M_trace :=
    ⟨(-1000010 : Int32) - 2, 2, S_rows, 0, 2, M_item, rfl, rfl, ⟨n, nb, hN, hS, hT, hTT, hTr, rfl, e2⟩⟩
  have hb2' : ∀ (x : Option (Int32 × Int32)), x = some ((-1000010 : Int32) - 2, 2) → bd2 x (fun r22 M_status_23 => some (r22, (0 : Int32), M_status_23, M_item)) = some ((-1000010 : Int32) - 2, (0 : Int32), (2 : Int32), M_item) := by
    intro x hx; rw [hx, bd2_i]
  have hfo : fX7_found 0 2 = some ((-1000010 : Int32) - 2, 2) := rfl
  have z0 : (0 : Int32).toInt = 0 := rfl
  by_cases c1 : p1 < 0
  · rw [if_pos c1, hb2' _ hfo, hp_f ha ek hk p1 p4 (by rw [i32_lt, z0] at c1; omega), bd1_i, if_pos rfl, bd1_i, if_neg (by decide)]
    exact hbad
  rw [if_neg c1]
  by_cases c2 : p3 < 0
  · rw [if_pos c2, hb2' _ hfo]
    have hz : bd1 (fX4_hasPlaces S_sizes (nI a) p1 p4) (fun r12 => (if r12 = 0 then some 2 else bd1 (fX4_hasPlaces S_sizes (nI b) p3 p4) (fun r15 => (if r15 = 0 then some 2 else some 0)))) = some (2 : Int32) := by
      by_cases q : 0 ≤ p1.toInt ∧ 0 ≤ p4.toInt ∧ p1.toInt + p4.toInt ≤ k
      · obtain ⟨i, hi, rfl⟩ : ∃ i : Nat, i ≤ k ∧ p1 = nI i := nI_of2 (M := nI k) (n := k) (nI_toInt (by omega)) c1 (by rw [i32_le, nI_toInt (by omega)]; omega)
        obtain ⟨m, hm, rfl⟩ : ∃ m : Nat, m ≤ k ∧ p4 = nI m := nI_of2 (M := nI k) (n := k) (nI_toInt (by omega)) (by rw [i32_lt, z0]; omega) (by rw [i32_le, nI_toInt (by omega)]; omega)
        rw [nI_toInt (by omega), nI_toInt (by omega)] at q
        rw [hp_t ha ek hk (by omega), bd1_i, if_neg (by decide), hp_f hb ek2 hk2 p3 _ (by rw [i32_lt, z0] at c2; omega), bd1_i, if_pos rfl]
      · rw [hp_f ha ek hk p1 p4 q, bd1_i, if_pos rfl]
    rw [hz, bd1_i, if_neg (by decide)]
    exact hbad
  rw [if_neg c2]
  by_cases c3 : p4 < 0
  · rw [if_pos c3, hb2' _ hfo, hp_f ha ek hk p1 p4 (by rw [i32_lt, z0] at c3; omega), bd1_i, if_pos rfl, bd1_i, if_neg (by decide)]
    exact hbad
  rw [if_neg c3, ldx_n ha (by decide), s3, ek]
  have c1' : 0 ≤ p1.toInt := by rw [i32_lt, z0] at c1; omega
  have c2' : 0 ≤ p3.toInt := by rw [i32_lt, z0] at c2; omega
  have c3' : 0 ≤ p4.toInt := by rw [i32_lt, z0] at c3; omega
  by_cases c4 : 0 < lg_cmp (p1.toInt64 + p4.toInt64) (nI k).toInt64
  · have q := (lgc_gt _ _).mp c4
    rw [Int64.lt_iff_toInt_lt, add64, Int32.toInt_toInt64, nI_toInt (by omega)] at q
    rw [if_pos c4, hb2' _ hfo, hp_f ha ek hk p1 p4 (by omega), bd1_i, if_pos rfl, bd1_i, if_neg (by decide)]
    exact hbad
  rw [if_neg c4, ldx_n hb (by decide), t3, ek2]
  have q4 : p1.toInt + p4.toInt ≤ k := by
    have q : ¬ ((nI k).toInt64 < p1.toInt64 + p4.toInt64) := fun r => c4 ((lgc_gt _ _).mpr r)
    rw [Int64.lt_iff_toInt_lt, add64, Int32.toInt_toInt64, nI_toInt (by omega)] at q
    omega
  obtain ⟨i, hi, rfl⟩ : ∃ i : Nat, i ≤ k ∧ p1 = nI i := nI_of2 (M := nI k) (n := k) (nI_toInt (by omega)) c1 (by rw [i32_le, nI_toInt (by omega)]; omega)
  obtain ⟨m, hm9, rfl⟩ : ∃ m : Nat, m ≤ k ∧ p4 = nI m := nI_of2 (M := nI k) (n := k) (nI_toInt (by omega)) c3 (by rw [i32_le, nI_toInt (by omega)]; omega)
  rw [nI_toInt (by omega), nI_toInt (by omega)] at q4
  rw [hp_t ha ek hk (by omega), bd1_i, if_neg (by decide)]
  by_cases c5 : lg_cmp (p3.toInt64 + (nI m).toInt64) (nI k2).toInt64 ≤ 0
  case neg =>
    have q : (nI k2).toInt64 < p3.toInt64 + (nI m).toInt64 := Classical.not_not.mp (fun r => c5 ((lgc_le _ _).mpr r))
    rw [Int64.lt_iff_toInt_lt, add64, Int32.toInt_toInt64, nI_toInt (by omega)] at q
    rw [if_neg c5, hb2' _ hfo, hp_f hb ek2 hk2 p3 _ (by omega), bd1_i, if_pos rfl, bd1_i, if_neg (by decide)]
    exact hbad
  rw [if_pos c5]
  have q5 : p3.toInt + m ≤ k2 := by
    have q := (lgc_le _ _).mp c5
    rw [Int64.lt_iff_toInt_lt, add64, Int32.toInt_toInt64, nI_toInt (by omega), nI_toInt (by omega)] at q
    omega
  obtain ⟨j, hj, rfl⟩ : ∃ j : Nat, j ≤ k2 ∧ p3 = nI j := nI_of2 (M := nI k2) (n := k2) (nI_toInt (by omega)) c2 (by rw [i32_le, nI_toInt (by omega)]; omega)
  rw [nI_toInt (by omega)] at q5
  rw [hp_t hb ek2 hk2 (by omega), bd1_i, if_neg (by decide), bd1_i, if_pos rfl]
  unfold fX4_move
  rw [rwx_n ha, rwx_n hb, cpx_n (by omega) (by omega) (by decide) (by decide), bnd_i, bd1_i]
  by_cases c6 : nI i < nI j
  · have hij : i < j := (nI_ltI (by omega) (by omega)).mp c6
    have h0 : cpD M_item (40 * a + i) (40 * b + j) m 0 = M_item := by
      funext q
      unfold cpD
      rw [if_neg (by omega)]
    have := copy_dn M_lane M_many M_item (a := a) (i := i) (b := b) (j := j) (n := m) ha hb (by omega) (by omega) hij FU 0 (by omega) (by unfold FU; omega)
    rw [h0, nI_0] at this
    rw [if_pos c6, this]
    exact ⟨nI m, 0, _, 0, 0, _, rfl, rfl, ⟨n, nb, hN, copy_rows hS ha hb (by omega) (by omega) (fun q => by unfold cpD; rw [Nat.add_sub_cancel]), hT, hTT, hTr, rfl, e2⟩⟩
  · have hij : j ≤ i := by
      rcases Nat.lt_or_ge i j with q | q
      · exact absurd (nI_lt q (by omega)) c6
      · exact q
    have h0 : cpU M_item (40 * a + i) (40 * b + j) 0 = M_item := by
      funext q
      unfold cpU
      rw [if_neg (by omega)]
    have := copy_up M_lane M_many M_item (a := a) (i := i) (b := b) (j := j) (n := m) ha hb (by omega) (by omega) hij FU 0 (by omega) (by unfold FU; omega)
    rw [h0, nI_0] at this
    rw [if_neg c6, this]
    exact ⟨nI m, 0, _, 0, 0, _, rfl, rfl, ⟨n, nb, hN, copy_rows hS ha hb (by omega) (by omega) (fun q => by unfold cpU; rfl), hT, hTT, hTr, rfl, e2⟩⟩
