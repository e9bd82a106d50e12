/-! combinators of the pure functions, and what each gives to the walk -/
def ib (i : Int32) (n : Nat) : Bool := decide (¬ (i < 0 ∨ n ≤ i.toNatClampNeg))
theorem ib_in {i : Int32} {n : Nat} (h : ib i n = true) : vp_in i n := by
  unfold ib at h
  unfold vp_in
  exact of_decide_eq_true h
theorem in_ib {i : Int32} {n : Nat} (h : vp_in i n) : ib i n = true := by
  unfold vp_in at h
  unfold ib
  exact decide_eq_true h
def bnd {α β : Type} (a : α) (k : α → Option β) : Option β := k a
theorem bnd_s {α β : Type} {a : α} {k : α → Option β} {r : β} (h : bnd a k = some r) : ∃ x, x = a ∧ k x = some r := ⟨a, rfl, h⟩
def ldx {α β : Type} (n : Nat) (f : Nat → α) (i : Int32) (k : α → Option β) : Option β := if ib i n = true then k (f i.toNatClampNeg) else none
theorem ldx_s {α β : Type} {n : Nat} {f : Nat → α} {i : Int32} {k : α → Option β} {r : β} (h : ldx n f i k = some r) : ∃ x, x = f i.toNatClampNeg ∧ vp_in i n ∧ k x = some r := by
  unfold ldx at h
  by_cases c : ib i n = true
  · rw [if_pos c] at h; exact ⟨_, rfl, ib_in c, h⟩
  · rw [if_neg c] at h; cases h
def sti {β : Type} (n : Nat) (f : Nat → Int32) (i : Int32) (x : Int32) (k : (Nat → Int32) → Option β) : Option β := if ib i n = true then k (upd f i.toNatClampNeg x) else none
theorem sti_s {β : Type} {n : Nat} {f : Nat → Int32} {i x : Int32} {k : (Nat → Int32) → Option β} {r : β} (h : sti n f i x k = some r) : ∃ g, g = upd f i.toNatClampNeg x ∧ vp_in i n ∧ k g = some r := by
  unfold sti at h
  by_cases c : ib i n = true
  · rw [if_pos c] at h; exact ⟨_, rfl, ib_in c, h⟩
  · rw [if_neg c] at h; cases h
def stl {β : Type} (n : Nat) (f : Nat → Int64) (i : Int32) (x : Int64) (k : (Nat → Int64) → Option β) : Option β := if ib i n = true then k (vp_updL f i.toNatClampNeg x) else none
theorem stl_s {β : Type} {n : Nat} {f : Nat → Int64} {i : Int32} {x : Int64} {k : (Nat → Int64) → Option β} {r : β} (h : stl n f i x k = some r) : ∃ g, g = vp_updL f i.toNatClampNeg x ∧ vp_in i n ∧ k g = some r := by
  unfold stl at h
  by_cases c : ib i n = true
  · rw [if_pos c] at h; exact ⟨_, rfl, ib_in c, h⟩
  · rw [if_neg c] at h; cases h
def nzx {β : Type} (d : Int32) (k : Option β) : Option β := if d = 0 then none else k
theorem nzx_s {β : Type} {d : Int32} {k : Option β} {r : β} (h : nzx d k = some r) : ¬ d = 0 ∧ k = some r := by
  unfold nzx at h
  by_cases c : d = 0
  · rw [if_pos c] at h; cases h
  · rw [if_neg c] at h; exact ⟨c, h⟩
def zrx {β : Type} (v : Int32) (k : Option β) : Option β := if v = 0 ∨ v = 1 then k else none
theorem zrx_s {β : Type} {v : Int32} {k : Option β} {r : β} (h : zrx v k = some r) : narrow .boolean (.int v) = .int v ∧ k = some r := by
  unfold zrx at h
  by_cases c : v = 0 ∨ v = 1
  · rw [if_pos c] at h
    exact ⟨by rcases c with rfl | rfl <;> rfl, h⟩
  · rw [if_neg c] at h; cases h
def cpx {β : Type} (n0 n1 : Nat) (f g : Nat → Int32) (sp dp n : Int32) (k : (Nat → Int32) → Option β) : Option β :=
  if ¬ sp < 0 ∧ ¬ dp < 0 ∧ ¬ n < 0 ∧ sp.toNatClampNeg + n.toNatClampNeg ≤ n0 ∧ dp.toNatClampNeg + n.toNatClampNeg ≤ n1 then k (va_cpy f g sp.toNatClampNeg dp.toNatClampNeg n.toNatClampNeg) else none
theorem cpx_s {β : Type} {n0 n1 : Nat} {f g : Nat → Int32} {sp dp n : Int32} {k : (Nat → Int32) → Option β} {r : β} (h : cpx n0 n1 f g sp dp n k = some r) : ∃ g1, g1 = va_cpy f g sp.toNatClampNeg dp.toNatClampNeg n.toNatClampNeg ∧ (¬ sp < 0 ∧ ¬ dp < 0 ∧ ¬ n < 0 ∧ sp.toNatClampNeg + n.toNatClampNeg ≤ n0 ∧ dp.toNatClampNeg + n.toNatClampNeg ≤ n1) ∧ k g1 = some r := by
  unfold cpx at h
  by_cases c : ¬ sp < 0 ∧ ¬ dp < 0 ∧ ¬ n < 0 ∧ sp.toNatClampNeg + n.toNatClampNeg ≤ n0 ∧ dp.toNatClampNeg + n.toNatClampNeg ≤ n1
  · rw [if_pos c] at h; exact ⟨_, rfl, c, h⟩
  · rw [if_neg c] at h; cases h
theorem ift {α : Type} {c : Prop} [Decidable c] {a b r : α} (hc : c) (h : (if c then a else b) = r) : a = r := by rw [if_pos hc] at h; exact h
theorem ifn {α : Type} {c : Prop} [Decidable c] {a b r : α} (hc : ¬ c) (h : (if c then a else b) = r) : b = r := by rw [if_neg hc] at h; exact h
def FU : Nat := 100000
def bd0 {γ : Type} (o : Option Unit) (k : Option γ) : Option γ := o.bind (fun _ => k)
theorem bd0_s {γ : Type} {o : Option Unit} {k : Option γ} {r : γ} (h : bd0 o k = some r) : o = some () ∧ k = some r := by
  unfold bd0 at h
  obtain ⟨a, h1, h2⟩ := Option.bind_eq_some_iff.mp h
  exact ⟨h1, h2⟩
def bd1 {A1 γ : Type} (o : Option (A1)) (k : A1 → Option γ) : Option γ := o.bind (fun t => k t)
theorem bd1_s {A1 γ : Type} {o : Option (A1)} {k : A1 → Option γ} {r : γ} (h : bd1 o k = some r) : ∃ x1, o = some x1 ∧ k x1 = some r := by
  unfold bd1 at h
  obtain ⟨a, h1, h2⟩ := Option.bind_eq_some_iff.mp h
  exact ⟨a, h1, h2⟩
theorem bd1_i {A1 γ : Type} {k : A1 → Option γ} {x1 : A1} : bd1 (some x1) k = k x1 := rfl
def bd2 {A1 A2 γ : Type} (o : Option (A1 × A2)) (k : A1 → A2 → Option γ) : Option γ := o.bind (fun t => k (t.1) (t.2))
theorem bd2_s {A1 A2 γ : Type} {o : Option (A1 × A2)} {k : A1 → A2 → Option γ} {r : γ} (h : bd2 o k = some r) : ∃ x1 x2, o = some (x1, x2) ∧ k x1 x2 = some r := by
  unfold bd2 at h
  obtain ⟨a, h1, h2⟩ := Option.bind_eq_some_iff.mp h
  exact ⟨a.1, a.2, h1, h2⟩
theorem bd2_i {A1 A2 γ : Type} {k : A1 → A2 → Option γ} {x1 : A1} {x2 : A2} : bd2 (some (x1, x2)) k = k x1 x2 := rfl
def bd3 {A1 A2 A3 γ : Type} (o : Option (A1 × A2 × A3)) (k : A1 → A2 → A3 → Option γ) : Option γ := o.bind (fun t => k (t.1) (t.2.1) (t.2.2))
theorem bd3_s {A1 A2 A3 γ : Type} {o : Option (A1 × A2 × A3)} {k : A1 → A2 → A3 → Option γ} {r : γ} (h : bd3 o k = some r) : ∃ x1 x2 x3, o = some (x1, x2, x3) ∧ k x1 x2 x3 = some r := by
  unfold bd3 at h
  obtain ⟨a, h1, h2⟩ := Option.bind_eq_some_iff.mp h
  exact ⟨a.1, a.2.1, a.2.2, h1, h2⟩
theorem bd3_i {A1 A2 A3 γ : Type} {k : A1 → A2 → A3 → Option γ} {x1 : A1} {x2 : A2} {x3 : A3} : bd3 (some (x1, x2, x3)) k = k x1 x2 x3 := rfl
def bd4 {A1 A2 A3 A4 γ : Type} (o : Option (A1 × A2 × A3 × A4)) (k : A1 → A2 → A3 → A4 → Option γ) : Option γ := o.bind (fun t => k (t.1) (t.2.1) (t.2.2.1) (t.2.2.2))
theorem bd4_s {A1 A2 A3 A4 γ : Type} {o : Option (A1 × A2 × A3 × A4)} {k : A1 → A2 → A3 → A4 → Option γ} {r : γ} (h : bd4 o k = some r) : ∃ x1 x2 x3 x4, o = some (x1, x2, x3, x4) ∧ k x1 x2 x3 x4 = some r := by
  unfold bd4 at h
  obtain ⟨a, h1, h2⟩ := Option.bind_eq_some_iff.mp h
  exact ⟨a.1, a.2.1, a.2.2.1, a.2.2.2, h1, h2⟩
theorem bd4_i {A1 A2 A3 A4 γ : Type} {k : A1 → A2 → A3 → A4 → Option γ} {x1 : A1} {x2 : A2} {x3 : A3} {x4 : A4} : bd4 (some (x1, x2, x3, x4)) k = k x1 x2 x3 x4 := rfl
def bd5 {A1 A2 A3 A4 A5 γ : Type} (o : Option (A1 × A2 × A3 × A4 × A5)) (k : A1 → A2 → A3 → A4 → A5 → Option γ) : Option γ := o.bind (fun t => k (t.1) (t.2.1) (t.2.2.1) (t.2.2.2.1) (t.2.2.2.2))
theorem bd5_s {A1 A2 A3 A4 A5 γ : Type} {o : Option (A1 × A2 × A3 × A4 × A5)} {k : A1 → A2 → A3 → A4 → A5 → Option γ} {r : γ} (h : bd5 o k = some r) : ∃ x1 x2 x3 x4 x5, o = some (x1, x2, x3, x4, x5) ∧ k x1 x2 x3 x4 x5 = some r := by
  unfold bd5 at h
  obtain ⟨a, h1, h2⟩ := Option.bind_eq_some_iff.mp h
  exact ⟨a.1, a.2.1, a.2.2.1, a.2.2.2.1, a.2.2.2.2, h1, h2⟩
theorem bd5_i {A1 A2 A3 A4 A5 γ : Type} {k : A1 → A2 → A3 → A4 → A5 → Option γ} {x1 : A1} {x2 : A2} {x3 : A3} {x4 : A4} {x5 : A5} : bd5 (some (x1, x2, x3, x4, x5)) k = k x1 x2 x3 x4 x5 := rfl
def bd6 {A1 A2 A3 A4 A5 A6 γ : Type} (o : Option (A1 × A2 × A3 × A4 × A5 × A6)) (k : A1 → A2 → A3 → A4 → A5 → A6 → Option γ) : Option γ := o.bind (fun t => k (t.1) (t.2.1) (t.2.2.1) (t.2.2.2.1) (t.2.2.2.2.1) (t.2.2.2.2.2))
theorem bd6_s {A1 A2 A3 A4 A5 A6 γ : Type} {o : Option (A1 × A2 × A3 × A4 × A5 × A6)} {k : A1 → A2 → A3 → A4 → A5 → A6 → Option γ} {r : γ} (h : bd6 o k = some r) : ∃ x1 x2 x3 x4 x5 x6, o = some (x1, x2, x3, x4, x5, x6) ∧ k x1 x2 x3 x4 x5 x6 = some r := by
  unfold bd6 at h
  obtain ⟨a, h1, h2⟩ := Option.bind_eq_some_iff.mp h
  exact ⟨a.1, a.2.1, a.2.2.1, a.2.2.2.1, a.2.2.2.2.1, a.2.2.2.2.2, h1, h2⟩
theorem bd6_i {A1 A2 A3 A4 A5 A6 γ : Type} {k : A1 → A2 → A3 → A4 → A5 → A6 → Option γ} {x1 : A1} {x2 : A2} {x3 : A3} {x4 : A4} {x5 : A5} {x6 : A6} : bd6 (some (x1, x2, x3, x4, x5, x6)) k = k x1 x2 x3 x4 x5 x6 := rfl
def bd7 {A1 A2 A3 A4 A5 A6 A7 γ : Type} (o : Option (A1 × A2 × A3 × A4 × A5 × A6 × A7)) (k : A1 → A2 → A3 → A4 → A5 → A6 → A7 → Option γ) : Option γ := o.bind (fun t => k (t.1) (t.2.1) (t.2.2.1) (t.2.2.2.1) (t.2.2.2.2.1) (t.2.2.2.2.2.1) (t.2.2.2.2.2.2))
theorem bd7_s {A1 A2 A3 A4 A5 A6 A7 γ : Type} {o : Option (A1 × A2 × A3 × A4 × A5 × A6 × A7)} {k : A1 → A2 → A3 → A4 → A5 → A6 → A7 → Option γ} {r : γ} (h : bd7 o k = some r) : ∃ x1 x2 x3 x4 x5 x6 x7, o = some (x1, x2, x3, x4, x5, x6, x7) ∧ k x1 x2 x3 x4 x5 x6 x7 = some r := by
  unfold bd7 at h
  obtain ⟨a, h1, h2⟩ := Option.bind_eq_some_iff.mp h
  exact ⟨a.1, a.2.1, a.2.2.1, a.2.2.2.1, a.2.2.2.2.1, a.2.2.2.2.2.1, a.2.2.2.2.2.2, h1, h2⟩
theorem bd7_i {A1 A2 A3 A4 A5 A6 A7 γ : Type} {k : A1 → A2 → A3 → A4 → A5 → A6 → A7 → Option γ} {x1 : A1} {x2 : A2} {x3 : A3} {x4 : A4} {x5 : A5} {x6 : A6} {x7 : A7} : bd7 (some (x1, x2, x3, x4, x5, x6, x7)) k = k x1 x2 x3 x4 x5 x6 x7 := rfl
def bd8 {A1 A2 A3 A4 A5 A6 A7 A8 γ : Type} (o : Option (A1 × A2 × A3 × A4 × A5 × A6 × A7 × A8)) (k : A1 → A2 → A3 → A4 → A5 → A6 → A7 → A8 → Option γ) : Option γ := o.bind (fun t => k (t.1) (t.2.1) (t.2.2.1) (t.2.2.2.1) (t.2.2.2.2.1) (t.2.2.2.2.2.1) (t.2.2.2.2.2.2.1) (t.2.2.2.2.2.2.2))
theorem bd8_s {A1 A2 A3 A4 A5 A6 A7 A8 γ : Type} {o : Option (A1 × A2 × A3 × A4 × A5 × A6 × A7 × A8)} {k : A1 → A2 → A3 → A4 → A5 → A6 → A7 → A8 → Option γ} {r : γ} (h : bd8 o k = some r) : ∃ x1 x2 x3 x4 x5 x6 x7 x8, o = some (x1, x2, x3, x4, x5, x6, x7, x8) ∧ k x1 x2 x3 x4 x5 x6 x7 x8 = some r := by
  unfold bd8 at h
  obtain ⟨a, h1, h2⟩ := Option.bind_eq_some_iff.mp h
  exact ⟨a.1, a.2.1, a.2.2.1, a.2.2.2.1, a.2.2.2.2.1, a.2.2.2.2.2.1, a.2.2.2.2.2.2.1, a.2.2.2.2.2.2.2, h1, h2⟩
theorem bd8_i {A1 A2 A3 A4 A5 A6 A7 A8 γ : Type} {k : A1 → A2 → A3 → A4 → A5 → A6 → A7 → A8 → Option γ} {x1 : A1} {x2 : A2} {x3 : A3} {x4 : A4} {x5 : A5} {x6 : A6} {x7 : A7} {x8 : A8} : bd8 (some (x1, x2, x3, x4, x5, x6, x7, x8)) k = k x1 x2 x3 x4 x5 x6 x7 x8 := rfl
def bd9 {A1 A2 A3 A4 A5 A6 A7 A8 A9 γ : Type} (o : Option (A1 × A2 × A3 × A4 × A5 × A6 × A7 × A8 × A9)) (k : A1 → A2 → A3 → A4 → A5 → A6 → A7 → A8 → A9 → Option γ) : Option γ := o.bind (fun t => k (t.1) (t.2.1) (t.2.2.1) (t.2.2.2.1) (t.2.2.2.2.1) (t.2.2.2.2.2.1) (t.2.2.2.2.2.2.1) (t.2.2.2.2.2.2.2.1) (t.2.2.2.2.2.2.2.2))
theorem bd9_s {A1 A2 A3 A4 A5 A6 A7 A8 A9 γ : Type} {o : Option (A1 × A2 × A3 × A4 × A5 × A6 × A7 × A8 × A9)} {k : A1 → A2 → A3 → A4 → A5 → A6 → A7 → A8 → A9 → Option γ} {r : γ} (h : bd9 o k = some r) : ∃ x1 x2 x3 x4 x5 x6 x7 x8 x9, o = some (x1, x2, x3, x4, x5, x6, x7, x8, x9) ∧ k x1 x2 x3 x4 x5 x6 x7 x8 x9 = some r := by
  unfold bd9 at h
  obtain ⟨a, h1, h2⟩ := Option.bind_eq_some_iff.mp h
  exact ⟨a.1, a.2.1, a.2.2.1, a.2.2.2.1, a.2.2.2.2.1, a.2.2.2.2.2.1, a.2.2.2.2.2.2.1, a.2.2.2.2.2.2.2.1, a.2.2.2.2.2.2.2.2, h1, h2⟩
theorem bd9_i {A1 A2 A3 A4 A5 A6 A7 A8 A9 γ : Type} {k : A1 → A2 → A3 → A4 → A5 → A6 → A7 → A8 → A9 → Option γ} {x1 : A1} {x2 : A2} {x3 : A3} {x4 : A4} {x5 : A5} {x6 : A6} {x7 : A7} {x8 : A8} {x9 : A9} : bd9 (some (x1, x2, x3, x4, x5, x6, x7, x8, x9)) k = k x1 x2 x3 x4 x5 x6 x7 x8 x9 := rfl
def bd10 {A1 A2 A3 A4 A5 A6 A7 A8 A9 A10 γ : Type} (o : Option (A1 × A2 × A3 × A4 × A5 × A6 × A7 × A8 × A9 × A10)) (k : A1 → A2 → A3 → A4 → A5 → A6 → A7 → A8 → A9 → A10 → Option γ) : Option γ := o.bind (fun t => k (t.1) (t.2.1) (t.2.2.1) (t.2.2.2.1) (t.2.2.2.2.1) (t.2.2.2.2.2.1) (t.2.2.2.2.2.2.1) (t.2.2.2.2.2.2.2.1) (t.2.2.2.2.2.2.2.2.1) (t.2.2.2.2.2.2.2.2.2))
theorem bd10_s {A1 A2 A3 A4 A5 A6 A7 A8 A9 A10 γ : Type} {o : Option (A1 × A2 × A3 × A4 × A5 × A6 × A7 × A8 × A9 × A10)} {k : A1 → A2 → A3 → A4 → A5 → A6 → A7 → A8 → A9 → A10 → Option γ} {r : γ} (h : bd10 o k = some r) : ∃ x1 x2 x3 x4 x5 x6 x7 x8 x9 x10, o = some (x1, x2, x3, x4, x5, x6, x7, x8, x9, x10) ∧ k x1 x2 x3 x4 x5 x6 x7 x8 x9 x10 = some r := by
  unfold bd10 at h
  obtain ⟨a, h1, h2⟩ := Option.bind_eq_some_iff.mp h
  exact ⟨a.1, a.2.1, a.2.2.1, a.2.2.2.1, a.2.2.2.2.1, a.2.2.2.2.2.1, a.2.2.2.2.2.2.1, a.2.2.2.2.2.2.2.1, a.2.2.2.2.2.2.2.2.1, a.2.2.2.2.2.2.2.2.2, h1, h2⟩
theorem bd10_i {A1 A2 A3 A4 A5 A6 A7 A8 A9 A10 γ : Type} {k : A1 → A2 → A3 → A4 → A5 → A6 → A7 → A8 → A9 → A10 → Option γ} {x1 : A1} {x2 : A2} {x3 : A3} {x4 : A4} {x5 : A5} {x6 : A6} {x7 : A7} {x8 : A8} {x9 : A9} {x10 : A10} : bd10 (some (x1, x2, x3, x4, x5, x6, x7, x8, x9, x10)) k = k x1 x2 x3 x4 x5 x6 x7 x8 x9 x10 := rfl
def bd11 {A1 A2 A3 A4 A5 A6 A7 A8 A9 A10 A11 γ : Type} (o : Option (A1 × A2 × A3 × A4 × A5 × A6 × A7 × A8 × A9 × A10 × A11)) (k : A1 → A2 → A3 → A4 → A5 → A6 → A7 → A8 → A9 → A10 → A11 → Option γ) : Option γ := o.bind (fun t => k (t.1) (t.2.1) (t.2.2.1) (t.2.2.2.1) (t.2.2.2.2.1) (t.2.2.2.2.2.1) (t.2.2.2.2.2.2.1) (t.2.2.2.2.2.2.2.1) (t.2.2.2.2.2.2.2.2.1) (t.2.2.2.2.2.2.2.2.2.1) (t.2.2.2.2.2.2.2.2.2.2))
theorem bd11_s {A1 A2 A3 A4 A5 A6 A7 A8 A9 A10 A11 γ : Type} {o : Option (A1 × A2 × A3 × A4 × A5 × A6 × A7 × A8 × A9 × A10 × A11)} {k : A1 → A2 → A3 → A4 → A5 → A6 → A7 → A8 → A9 → A10 → A11 → Option γ} {r : γ} (h : bd11 o k = some r) : ∃ x1 x2 x3 x4 x5 x6 x7 x8 x9 x10 x11, o = some (x1, x2, x3, x4, x5, x6, x7, x8, x9, x10, x11) ∧ k x1 x2 x3 x4 x5 x6 x7 x8 x9 x10 x11 = some r := by
  unfold bd11 at h
  obtain ⟨a, h1, h2⟩ := Option.bind_eq_some_iff.mp h
  exact ⟨a.1, a.2.1, a.2.2.1, a.2.2.2.1, a.2.2.2.2.1, a.2.2.2.2.2.1, a.2.2.2.2.2.2.1, a.2.2.2.2.2.2.2.1, a.2.2.2.2.2.2.2.2.1, a.2.2.2.2.2.2.2.2.2.1, a.2.2.2.2.2.2.2.2.2.2, h1, h2⟩
theorem bd11_i {A1 A2 A3 A4 A5 A6 A7 A8 A9 A10 A11 γ : Type} {k : A1 → A2 → A3 → A4 → A5 → A6 → A7 → A8 → A9 → A10 → A11 → Option γ} {x1 : A1} {x2 : A2} {x3 : A3} {x4 : A4} {x5 : A5} {x6 : A6} {x7 : A7} {x8 : A8} {x9 : A9} {x10 : A10} {x11 : A11} : bd11 (some (x1, x2, x3, x4, x5, x6, x7, x8, x9, x10, x11)) k = k x1 x2 x3 x4 x5 x6 x7 x8 x9 x10 x11 := rfl
def bd12 {A1 A2 A3 A4 A5 A6 A7 A8 A9 A10 A11 A12 γ : Type} (o : Option (A1 × A2 × A3 × A4 × A5 × A6 × A7 × A8 × A9 × A10 × A11 × A12)) (k : A1 → A2 → A3 → A4 → A5 → A6 → A7 → A8 → A9 → A10 → A11 → A12 → Option γ) : Option γ := o.bind (fun t => k (t.1) (t.2.1) (t.2.2.1) (t.2.2.2.1) (t.2.2.2.2.1) (t.2.2.2.2.2.1) (t.2.2.2.2.2.2.1) (t.2.2.2.2.2.2.2.1) (t.2.2.2.2.2.2.2.2.1) (t.2.2.2.2.2.2.2.2.2.1) (t.2.2.2.2.2.2.2.2.2.2.1) (t.2.2.2.2.2.2.2.2.2.2.2))
theorem bd12_s {A1 A2 A3 A4 A5 A6 A7 A8 A9 A10 A11 A12 γ : Type} {o : Option (A1 × A2 × A3 × A4 × A5 × A6 × A7 × A8 × A9 × A10 × A11 × A12)} {k : A1 → A2 → A3 → A4 → A5 → A6 → A7 → A8 → A9 → A10 → A11 → A12 → Option γ} {r : γ} (h : bd12 o k = some r) : ∃ x1 x2 x3 x4 x5 x6 x7 x8 x9 x10 x11 x12, o = some (x1, x2, x3, x4, x5, x6, x7, x8, x9, x10, x11, x12) ∧ k x1 x2 x3 x4 x5 x6 x7 x8 x9 x10 x11 x12 = some r := by
  unfold bd12 at h
  obtain ⟨a, h1, h2⟩ := Option.bind_eq_some_iff.mp h
  exact ⟨a.1, a.2.1, a.2.2.1, a.2.2.2.1, a.2.2.2.2.1, a.2.2.2.2.2.1, a.2.2.2.2.2.2.1, a.2.2.2.2.2.2.2.1, a.2.2.2.2.2.2.2.2.1, a.2.2.2.2.2.2.2.2.2.1, a.2.2.2.2.2.2.2.2.2.2.1, a.2.2.2.2.2.2.2.2.2.2.2, h1, h2⟩
theorem bd12_i {A1 A2 A3 A4 A5 A6 A7 A8 A9 A10 A11 A12 γ : Type} {k : A1 → A2 → A3 → A4 → A5 → A6 → A7 → A8 → A9 → A10 → A11 → A12 → Option γ} {x1 : A1} {x2 : A2} {x3 : A3} {x4 : A4} {x5 : A5} {x6 : A6} {x7 : A7} {x8 : A8} {x9 : A9} {x10 : A10} {x11 : A11} {x12 : A12} : bd12 (some (x1, x2, x3, x4, x5, x6, x7, x8, x9, x10, x11, x12)) k = k x1 x2 x3 x4 x5 x6 x7 x8 x9 x10 x11 x12 := rfl
def bd13 {A1 A2 A3 A4 A5 A6 A7 A8 A9 A10 A11 A12 A13 γ : Type} (o : Option (A1 × A2 × A3 × A4 × A5 × A6 × A7 × A8 × A9 × A10 × A11 × A12 × A13)) (k : A1 → A2 → A3 → A4 → A5 → A6 → A7 → A8 → A9 → A10 → A11 → A12 → A13 → Option γ) : Option γ := o.bind (fun t => k (t.1) (t.2.1) (t.2.2.1) (t.2.2.2.1) (t.2.2.2.2.1) (t.2.2.2.2.2.1) (t.2.2.2.2.2.2.1) (t.2.2.2.2.2.2.2.1) (t.2.2.2.2.2.2.2.2.1) (t.2.2.2.2.2.2.2.2.2.1) (t.2.2.2.2.2.2.2.2.2.2.1) (t.2.2.2.2.2.2.2.2.2.2.2.1) (t.2.2.2.2.2.2.2.2.2.2.2.2))
theorem bd13_s {A1 A2 A3 A4 A5 A6 A7 A8 A9 A10 A11 A12 A13 γ : Type} {o : Option (A1 × A2 × A3 × A4 × A5 × A6 × A7 × A8 × A9 × A10 × A11 × A12 × A13)} {k : A1 → A2 → A3 → A4 → A5 → A6 → A7 → A8 → A9 → A10 → A11 → A12 → A13 → Option γ} {r : γ} (h : bd13 o k = some r) : ∃ x1 x2 x3 x4 x5 x6 x7 x8 x9 x10 x11 x12 x13, o = some (x1, x2, x3, x4, x5, x6, x7, x8, x9, x10, x11, x12, x13) ∧ k x1 x2 x3 x4 x5 x6 x7 x8 x9 x10 x11 x12 x13 = some r := by
  unfold bd13 at h
  obtain ⟨a, h1, h2⟩ := Option.bind_eq_some_iff.mp h
  exact ⟨a.1, a.2.1, a.2.2.1, a.2.2.2.1, a.2.2.2.2.1, a.2.2.2.2.2.1, a.2.2.2.2.2.2.1, a.2.2.2.2.2.2.2.1, a.2.2.2.2.2.2.2.2.1, a.2.2.2.2.2.2.2.2.2.1, a.2.2.2.2.2.2.2.2.2.2.1, a.2.2.2.2.2.2.2.2.2.2.2.1, a.2.2.2.2.2.2.2.2.2.2.2.2, h1, h2⟩
theorem bd13_i {A1 A2 A3 A4 A5 A6 A7 A8 A9 A10 A11 A12 A13 γ : Type} {k : A1 → A2 → A3 → A4 → A5 → A6 → A7 → A8 → A9 → A10 → A11 → A12 → A13 → Option γ} {x1 : A1} {x2 : A2} {x3 : A3} {x4 : A4} {x5 : A5} {x6 : A6} {x7 : A7} {x8 : A8} {x9 : A9} {x10 : A10} {x11 : A11} {x12 : A12} {x13 : A13} : bd13 (some (x1, x2, x3, x4, x5, x6, x7, x8, x9, x10, x11, x12, x13)) k = k x1 x2 x3 x4 x5 x6 x7 x8 x9 x10 x11 x12 x13 := rfl
def bd14 {A1 A2 A3 A4 A5 A6 A7 A8 A9 A10 A11 A12 A13 A14 γ : Type} (o : Option (A1 × A2 × A3 × A4 × A5 × A6 × A7 × A8 × A9 × A10 × A11 × A12 × A13 × A14)) (k : A1 → A2 → A3 → A4 → A5 → A6 → A7 → A8 → A9 → A10 → A11 → A12 → A13 → A14 → Option γ) : Option γ := o.bind (fun t => k (t.1) (t.2.1) (t.2.2.1) (t.2.2.2.1) (t.2.2.2.2.1) (t.2.2.2.2.2.1) (t.2.2.2.2.2.2.1) (t.2.2.2.2.2.2.2.1) (t.2.2.2.2.2.2.2.2.1) (t.2.2.2.2.2.2.2.2.2.1) (t.2.2.2.2.2.2.2.2.2.2.1) (t.2.2.2.2.2.2.2.2.2.2.2.1) (t.2.2.2.2.2.2.2.2.2.2.2.2.1) (t.2.2.2.2.2.2.2.2.2.2.2.2.2))
theorem bd14_s {A1 A2 A3 A4 A5 A6 A7 A8 A9 A10 A11 A12 A13 A14 γ : Type} {o : Option (A1 × A2 × A3 × A4 × A5 × A6 × A7 × A8 × A9 × A10 × A11 × A12 × A13 × A14)} {k : A1 → A2 → A3 → A4 → A5 → A6 → A7 → A8 → A9 → A10 → A11 → A12 → A13 → A14 → Option γ} {r : γ} (h : bd14 o k = some r) : ∃ x1 x2 x3 x4 x5 x6 x7 x8 x9 x10 x11 x12 x13 x14, o = some (x1, x2, x3, x4, x5, x6, x7, x8, x9, x10, x11, x12, x13, x14) ∧ k x1 x2 x3 x4 x5 x6 x7 x8 x9 x10 x11 x12 x13 x14 = some r := by
  unfold bd14 at h
  obtain ⟨a, h1, h2⟩ := Option.bind_eq_some_iff.mp h
  exact ⟨a.1, a.2.1, a.2.2.1, a.2.2.2.1, a.2.2.2.2.1, a.2.2.2.2.2.1, a.2.2.2.2.2.2.1, a.2.2.2.2.2.2.2.1, a.2.2.2.2.2.2.2.2.1, a.2.2.2.2.2.2.2.2.2.1, a.2.2.2.2.2.2.2.2.2.2.1, a.2.2.2.2.2.2.2.2.2.2.2.1, a.2.2.2.2.2.2.2.2.2.2.2.2.1, a.2.2.2.2.2.2.2.2.2.2.2.2.2, h1, h2⟩
theorem bd14_i {A1 A2 A3 A4 A5 A6 A7 A8 A9 A10 A11 A12 A13 A14 γ : Type} {k : A1 → A2 → A3 → A4 → A5 → A6 → A7 → A8 → A9 → A10 → A11 → A12 → A13 → A14 → Option γ} {x1 : A1} {x2 : A2} {x3 : A3} {x4 : A4} {x5 : A5} {x6 : A6} {x7 : A7} {x8 : A8} {x9 : A9} {x10 : A10} {x11 : A11} {x12 : A12} {x13 : A13} {x14 : A14} : bd14 (some (x1, x2, x3, x4, x5, x6, x7, x8, x9, x10, x11, x12, x13, x14)) k = k x1 x2 x3 x4 x5 x6 x7 x8 x9 x10 x11 x12 x13 x14 := rfl
/-! contracts in one form: a world before, a world behind, an answer -/
def ct_P (D : va_G) (tys : List (ClassId × FieldType)) (wc : va_W) (sz : Nat) (av : List Value) : Array Value → State → Prop := va_Pc av (fun U => U.heap.size = sz ∧ va_P D vwCl wc U.heap ∧ va_K D vwCl tys U ∧ va_D (fun _ => True) wc)
def ct_B (D : va_G) (tys : List (ClassId × FieldType)) (wc w1 : va_W) (sz : Nat) (t : State) : Prop := va_P D vwCl w1 t.heap ∧ va_K D vwCl tys t ∧ va_D (va_A wc sz) w1
def ct_Qi (D : va_G) (tys : List (ClassId × FieldType)) (wc w1 : va_W) (r : Int32) (sz : Nat) : Array Value → State → Outcome → State → Prop := va_Qi (fun (x : Int32) (_ : Unit) => x = r) (fun _ t => ct_B D tys wc w1 sz t) (va_A wc sz)
def ct_Ql (D : va_G) (tys : List (ClassId × FieldType)) (wc w1 : va_W) (r : Int64) (sz : Nat) : Array Value → State → Outcome → State → Prop := va_Ql (fun (x : Int64) (_ : Unit) => x = r) (fun _ t => ct_B D tys wc w1 sz t) (va_A wc sz)
def ct_Qv (D : va_G) (tys : List (ClassId × FieldType)) (wc w1 : va_W) (sz : Nat) : Array Value → State → Outcome → State → Prop := va_Qv (fun (_ : Unit) => True) (fun _ t => ct_B D tys wc w1 sz t) (va_A wc sz)
def Cti (l : Launch) (y : MethodName) (ws : List Cond) (rm : Room) (D : va_G) (tys : List (ClassId × FieldType)) (wc w1 : va_W) (av : List Value) (r : Int32) : Prop := ∀ sz : Nat, Met l y ws rm (ct_P D tys wc sz av) (ct_Qi D tys wc w1 r sz) 0 0 (va_A wc sz)
def Ctl (l : Launch) (y : MethodName) (ws : List Cond) (rm : Room) (D : va_G) (tys : List (ClassId × FieldType)) (wc w1 : va_W) (av : List Value) (r : Int64) : Prop := ∀ sz : Nat, Met l y ws rm (ct_P D tys wc sz av) (ct_Ql D tys wc w1 r sz) 0 0 (va_A wc sz)
def Ctv (l : Launch) (y : MethodName) (ws : List Cond) (rm : Room) (D : va_G) (tys : List (ClassId × FieldType)) (wc w1 : va_W) (av : List Value) : Prop := ∀ sz : Nat, Met l y ws rm (ct_P D tys wc sz av) (ct_Qv D tys wc w1 sz) 0 0 (va_A wc sz)
theorem ct_blind {D : va_G} {tys : List (ClassId × FieldType)} {wc : va_W} {sz : Nat} {av : List Value} : FrameBlind (ct_P D tys wc sz av) := fun a U g mk q => by
  obtain ⟨q0, q1, qP, qK, qD⟩ := q
  exact ⟨q0, q1, qP, va_K.moved (u := U) (U := U.calling g mk a) (Vm.Alike.refl U.vm) qK, qD⟩
theorem ct_fm {w wc : va_W} {is : List Nat} (h : is.map (fun i => w[i]?) = wc.map some) : is.filterMap (fun i => w[i]?) = wc := by
  induction is generalizing wc with
  | nil => cases wc with
    | nil => rfl
    | cons a b => simp at h
  | cons i is ih => cases wc with
    | nil => simp at h
    | cons a b =>
      simp only [List.map_cons, List.cons.injEq] at h
      rw [List.filterMap_cons, h.1]
      exact congrArg (a :: ·) (ih h.2)
section CTS
variable {l : Launch} {y : MethodName} {ws ws' : List Cond} {rm : Room} {D : va_G} {tys : List (ClassId × FieldType)} {wc w1 : va_W} {av : List Value} {cc : ByteArray} {maxL : Nat}
/-- from a walk of the body to the contract; 'hret' is the end -/
theorem ct_int {ty : FieldType} {r : Int32} (hy : plainName y.cls = true) (hw : ws = Cond.code y cc maxL (some ty) :: ws') (hlen : (lg_sl av).length ≤ maxL)
    (body : ∀ (p : Program) (e : Env) (s : State) (m : MethodId) (args : Array Value) (below : List Frame) (meth : Method) (c : Code) (A : Nat → Prop) (Q : State → Prop) (ls : Array Slot),
      p.tables.exec = Jvm.exec → c.code = cc → c.maxLocals = maxL → s.vm.findClass y.cls = some m.cls → (∀ w ∈ ws, w.before args s = true) → (∀ q : Nat, s.heap.size ≤ q → A q) → va_K D vwCl tys s → va_P D vwCl wc s.heap → va_D A wc → va_S A s.heap s.heap [] → lv_has ls maxL (lv_args 0 av) →
      (∀ (H : Heap) (locs : List Loc) (pc : Nat) (ls : Array Slot) (x : Int32), x = r → narrow ty (.int x) = .int x → va_P D vwCl w1 H → va_D A w1 → va_S A s.heap H locs → decode cc pc = .ok (.ireturn, 1) → W p l e rm s m args below meth c H locs 0 0 Q (F0 m pc ls [.int x])) →
      W p l e rm s m args below meth c s.heap [] 0 0 Q (F0 m 0 ls [])) : Cti l y ws rm D tys wc w1 av r := by
  intro sz
  refine Met.ofW (cc := cc) (maxL := maxL) (ret := some ty) hy hw ?_
  intro p e s m args below meth c s₁ B hml hv
  obtain ⟨rfl, hsz, hP, hK, hD0⟩ := hv
  have hl := lv_entry av (n := maxL) hlen
  rw [lg_entry_eq]
  subst hsz
  refine body p e s m _ below meth c (va_A wc s.heap.size) _ _ B.exec B.bytes hml (findClass_of_methodNamed B.named) (atoms_spec (ws := ws) B.pre) (fun q h => Or.inr h) hK hP (hD0.self (sz := s.heap.size)) va_S.rf hl ?_
  intro H locs pc ls x hxr hn hP9 hD9 hS hdg
  subst hxr
  exact W.zret B.exec B.bytes B.returns hn (fun t ht hW => ⟨⟨x, (), rfl, rfl, by rw [ht]; exact hP9, va_K.moved hW.alike hK, hD9⟩, hS.F ht⟩) hS.2.2 hdg (hlocks := B.notSynchronized)
theorem ct_long {r : Int64} (hy : plainName y.cls = true) (hw : ws = Cond.code y cc maxL (some .long) :: ws') (hlen : (lg_sl av).length ≤ maxL)
    (body : ∀ (p : Program) (e : Env) (s : State) (m : MethodId) (args : Array Value) (below : List Frame) (meth : Method) (c : Code) (A : Nat → Prop) (Q : State → Prop) (ls : Array Slot),
      p.tables.exec = Jvm.exec → c.code = cc → c.maxLocals = maxL → s.vm.findClass y.cls = some m.cls → (∀ w ∈ ws, w.before args s = true) → (∀ q : Nat, s.heap.size ≤ q → A q) → va_K D vwCl tys s → va_P D vwCl wc s.heap → va_D A wc → va_S A s.heap s.heap [] → lv_has ls maxL (lv_args 0 av) →
      (∀ (H : Heap) (locs : List Loc) (pc : Nat) (ls : Array Slot) (x : Int64), x = r → va_P D vwCl w1 H → va_D A w1 → va_S A s.heap H locs → decode cc pc = .ok (.lreturn, 1) → W p l e rm s m args below meth c H locs 0 0 Q (F0 m pc ls [.long x])) →
      W p l e rm s m args below meth c s.heap [] 0 0 Q (F0 m 0 ls [])) : Ctl l y ws rm D tys wc w1 av r := by
  intro sz
  refine Met.ofW (cc := cc) (maxL := maxL) (ret := some .long) hy hw ?_
  intro p e s m args below meth c s₁ B hml hv
  obtain ⟨rfl, hsz, hP, hK, hD0⟩ := hv
  have hl := lv_entry av (n := maxL) hlen
  rw [lg_entry_eq]
  subst hsz
  refine body p e s m _ below meth c (va_A wc s.heap.size) _ _ B.exec B.bytes hml (findClass_of_methodNamed B.named) (atoms_spec (ws := ws) B.pre) (fun q h => Or.inr h) hK hP (hD0.self (sz := s.heap.size)) va_S.rf hl ?_
  intro H locs pc ls x hxr hP9 hD9 hS hdg
  subst hxr
  exact W.lret B.exec B.bytes B.returns (fun t ht hW => ⟨⟨x, (), rfl, rfl, by rw [ht]; exact hP9, va_K.moved hW.alike hK, hD9⟩, hS.F ht⟩) hS.2.2 hdg (hlocks := B.notSynchronized)
theorem ct_void (hy : plainName y.cls = true) (hw : ws = Cond.code y cc maxL none :: ws') (hlen : (lg_sl av).length ≤ maxL)
    (body : ∀ (p : Program) (e : Env) (s : State) (m : MethodId) (args : Array Value) (below : List Frame) (meth : Method) (c : Code) (A : Nat → Prop) (Q : State → Prop) (ls : Array Slot),
      p.tables.exec = Jvm.exec → c.code = cc → c.maxLocals = maxL → s.vm.findClass y.cls = some m.cls → (∀ w ∈ ws, w.before args s = true) → (∀ q : Nat, s.heap.size ≤ q → A q) → va_K D vwCl tys s → va_P D vwCl wc s.heap → va_D A wc → va_S A s.heap s.heap [] → lv_has ls maxL (lv_args 0 av) →
      (∀ (H : Heap) (locs : List Loc) (pc : Nat) (ls : Array Slot), va_P D vwCl w1 H → va_D A w1 → va_S A s.heap H locs → decode cc pc = .ok (.return_, 1) → W p l e rm s m args below meth c H locs 0 0 Q (F0 m pc ls [])) →
      W p l e rm s m args below meth c s.heap [] 0 0 Q (F0 m 0 ls [])) : Ctv l y ws rm D tys wc w1 av := by
  intro sz
  refine Met.ofW (cc := cc) (maxL := maxL) (ret := none) hy hw ?_
  intro p e s m args below meth c s₁ B hml hv
  obtain ⟨rfl, hsz, hP, hK, hD0⟩ := hv
  have hl := lv_entry av (n := maxL) hlen
  rw [lg_entry_eq]
  subst hsz
  refine body p e s m _ below meth c (va_A wc s.heap.size) _ _ B.exec B.bytes hml (findClass_of_methodNamed B.named) (atoms_spec (ws := ws) B.pre) (fun q h => Or.inr h) hK hP (hD0.self (sz := s.heap.size)) va_S.rf hl ?_
  intro H locs pc ls hP9 hD9 hS hdg
  exact W.vret B.exec B.bytes B.returns (fun t ht hW => ⟨⟨(), rfl, trivial, by rw [ht]; exact hP9, va_K.moved hW.alike hK, hD9⟩, hS.F ht⟩) hS.2.2 hdg (hlocks := B.notSynchronized)
end CTS
section KC
variable {p : Program} {l : Launch} {e : Env} {R : Room} {s : State} {m : MethodId} {args : Array Value} {below : List Frame} {meth : Method} {c : Code} {H H0 : Heap} {locs : List Loc} {cells slots : Nat} {Q : State → Prop}
  {Ts ws ws' : List Cond} {cc bytes : ByteArray} {nL maxL index n pc : Nat} {own C : String} {y : MethodName} {ret : Option FieldType} {rm : Room} {ls : Array Slot}
  {b : Addr} {As rest st0 : List Value} {D : va_G} {tys : List (ClassId × FieldType)} {w wc w1 wr wF : va_W} {A : Nat → Prop} {q : vw_C} {fs : List Value} {ci : Nat}
theorem kc_pre (hK : va_K D vwCl tys s) (hP : va_P D vwCl w H) (hD : va_D A w) (isC : List Nat) (hC : isC.map (fun i => w[i]?) = wc.map some) (hnC : va_nd isC = true) {av : List Value} (U : State) (hU : U.heap = H) (hW : s.WarmedH U.vm) : ct_P D tys wc H.size av av.toArray U :=
  ⟨rfl, by rw [hU], by rw [hU]; exact hP.sub isC (ct_fm hC), va_K.moved hW.alike hK, (hD.sub isC hnC hC).weaken (fun _ _ _ _ => trivial)⟩
theorem kc_vi {r : Int32} (S : CallFix p m c cc nL s args Ts own) (hM : Cti l y ws rm D tys wc w1 (.ref b :: As) r) (cw : CallW R s args own C index y bytes maxL ret ws rm 0 0 n)
    (hK : va_K D vwCl tys s) (hP : va_P D vwCl w H) (hD : va_D A w) (hS : va_S A H0 H locs) (hA : ∀ q : Nat, H0.size ≤ q → A q) (isC isR isF : List Nat) (q0 : Nat)
    (hC : isC.map (fun i => w[i]?) = wc.map some) (hnC : va_nd isC = true) (hR : isR.map (fun i => w[i]?) = wr.map some) (hnR : va_nd isR = true) (hdis : ∀ i ∈ isR, i ∉ isC) (hF : isF.map (fun i => (wr ++ w1)[i]?) = wF.map some) (hnF : va_nd isF = true)
    (hci : vwCl[ci]? = some q) (he : wc[q0]? = some (b, .inr (ci, fs))) (hqC : q.1 = C) (hn : As.length = n) (hsize : ls.size = nL) (hst : st0 = As.reverse ++ .ref b :: rest) (hW : (rest.map fun v => v.category).sum ≤ 8) (hdg : decode cc pc = .ok (.invokevirtual index, 3)) (hf : cells + 0 ≤ R.cells ∧ slots + 0 ≤ R.slots)
    (kk : ∀ (H1 : Heap) (locs1 : List Loc), va_P D vwCl wF H1 → va_D A wF → va_S A H0 H1 locs1 → W p l e R s m args below meth c H1 locs1 cells slots Q (F0 m (pc + 3) ls (.int r :: rest))) : W p l e R s m args below meth c H locs cells slots Q (F0 m pc ls st0) := by
  have hFc := va_free (wc := wc) hD hS hA isC hC
  refine va_calli (va_runV S (hM H.size) cw ⟨ct_blind, hqC ▸ va_recv hK (hP.sub isC (ct_fm hC)) hci he, fun U hU hW => kc_pre hK hP hD isC hC hnC U hU hW⟩ rfl hn hsize hst (lv_room hW) hdg hf) hS (fun q _ h => hFc q h) hFc (fun r1 u t H1 locs1 ht hvm hw hB hz1 hk1 hS1 => ?_)
  subst hw
  obtain ⟨hP1, hK1, hD1⟩ := hB
  rw [ht] at hP1
  obtain ⟨hP2, hD2⟩ := va_join (wr := wr) (w1 := w1) hP hD isC isR hC hR hnR hdis hk1 hFc hP1 hD1
  exact kk H1 locs1 (hP2.sub isF (ct_fm hF)) (hD2.sub isF hnF hF) hS1
theorem kc_vl {r : Int64} (S : CallFix p m c cc nL s args Ts own) (hM : Ctl l y ws rm D tys wc w1 (.ref b :: As) r) (cw : CallW R s args own C index y bytes maxL ret ws rm 0 0 n)
    (hK : va_K D vwCl tys s) (hP : va_P D vwCl w H) (hD : va_D A w) (hS : va_S A H0 H locs) (hA : ∀ q : Nat, H0.size ≤ q → A q) (isC isR isF : List Nat) (q0 : Nat)
    (hC : isC.map (fun i => w[i]?) = wc.map some) (hnC : va_nd isC = true) (hR : isR.map (fun i => w[i]?) = wr.map some) (hnR : va_nd isR = true) (hdis : ∀ i ∈ isR, i ∉ isC) (hF : isF.map (fun i => (wr ++ w1)[i]?) = wF.map some) (hnF : va_nd isF = true)
    (hci : vwCl[ci]? = some q) (he : wc[q0]? = some (b, .inr (ci, fs))) (hqC : q.1 = C) (hn : As.length = n) (hsize : ls.size = nL) (hst : st0 = As.reverse ++ .ref b :: rest) (hW : (rest.map fun v => v.category).sum ≤ 8) (hdg : decode cc pc = .ok (.invokevirtual index, 3)) (hf : cells + 0 ≤ R.cells ∧ slots + 0 ≤ R.slots)
    (kk : ∀ (H1 : Heap) (locs1 : List Loc), va_P D vwCl wF H1 → va_D A wF → va_S A H0 H1 locs1 → W p l e R s m args below meth c H1 locs1 cells slots Q (F0 m (pc + 3) ls (.long r :: rest))) : W p l e R s m args below meth c H locs cells slots Q (F0 m pc ls st0) := by
  have hFc := va_free (wc := wc) hD hS hA isC hC
  refine va_calll (va_runV S (hM H.size) cw ⟨ct_blind, hqC ▸ va_recv hK (hP.sub isC (ct_fm hC)) hci he, fun U hU hW => kc_pre hK hP hD isC hC hnC U hU hW⟩ rfl hn hsize hst (lv_room hW) hdg hf) hS (fun q _ h => hFc q h) hFc (fun r1 u t H1 locs1 ht hvm hw hB hz1 hk1 hS1 => ?_)
  subst hw
  obtain ⟨hP1, hK1, hD1⟩ := hB
  rw [ht] at hP1
  obtain ⟨hP2, hD2⟩ := va_join (wr := wr) (w1 := w1) hP hD isC isR hC hR hnR hdis hk1 hFc hP1 hD1
  exact kk H1 locs1 (hP2.sub isF (ct_fm hF)) (hD2.sub isF hnF hF) hS1
theorem kc_vv (S : CallFix p m c cc nL s args Ts own) (hM : Ctv l y ws rm D tys wc w1 (.ref b :: As)) (cw : CallW R s args own C index y bytes maxL ret ws rm 0 0 n)
    (hK : va_K D vwCl tys s) (hP : va_P D vwCl w H) (hD : va_D A w) (hS : va_S A H0 H locs) (hA : ∀ q : Nat, H0.size ≤ q → A q) (isC isR isF : List Nat) (q0 : Nat)
    (hC : isC.map (fun i => w[i]?) = wc.map some) (hnC : va_nd isC = true) (hR : isR.map (fun i => w[i]?) = wr.map some) (hnR : va_nd isR = true) (hdis : ∀ i ∈ isR, i ∉ isC) (hF : isF.map (fun i => (wr ++ w1)[i]?) = wF.map some) (hnF : va_nd isF = true)
    (hci : vwCl[ci]? = some q) (he : wc[q0]? = some (b, .inr (ci, fs))) (hqC : q.1 = C) (hn : As.length = n) (hsize : ls.size = nL) (hst : st0 = As.reverse ++ .ref b :: rest) (hW : (rest.map fun v => v.category).sum ≤ 8) (hdg : decode cc pc = .ok (.invokevirtual index, 3)) (hf : cells + 0 ≤ R.cells ∧ slots + 0 ≤ R.slots)
    (kk : ∀ (H1 : Heap) (locs1 : List Loc), va_P D vwCl wF H1 → va_D A wF → va_S A H0 H1 locs1 → W p l e R s m args below meth c H1 locs1 cells slots Q (F0 m (pc + 3) ls rest)) : W p l e R s m args below meth c H locs cells slots Q (F0 m pc ls st0) := by
  have hFc := va_free (wc := wc) hD hS hA isC hC
  refine va_callv (va_runV S (hM H.size) cw ⟨ct_blind, hqC ▸ va_recv hK (hP.sub isC (ct_fm hC)) hci he, fun U hU hW => kc_pre hK hP hD isC hC hnC U hU hW⟩ rfl hn hsize hst (lv_room hW) hdg hf) hS (fun q _ h => hFc q h) hFc (fun u t H1 locs1 ht hvm hw hB hz1 hk1 hS1 => ?_)
  obtain ⟨hP1, hK1, hD1⟩ := hB
  rw [ht] at hP1
  obtain ⟨hP2, hD2⟩ := va_join (wr := wr) (w1 := w1) hP hD isC isR hC hR hnR hdis hk1 hFc hP1 hD1
  exact kk H1 locs1 (hP2.sub isF (ct_fm hF)) (hD2.sub isF hnF hF) hS1
theorem kc_si {r : Int32} (S : CallFix p m c cc nL s args Ts own) (hM : Cti l y ws rm D tys wc w1 As r) (cw : CallB R s args own index y bytes maxL ret ws rm 0 0 n ∧ (Cond.static y).before args s = true)
    (hK : va_K D vwCl tys s) (hP : va_P D vwCl w H) (hD : va_D A w) (hS : va_S A H0 H locs) (hA : ∀ q : Nat, H0.size ≤ q → A q) (isC isR isF : List Nat)
    (hC : isC.map (fun i => w[i]?) = wc.map some) (hnC : va_nd isC = true) (hR : isR.map (fun i => w[i]?) = wr.map some) (hnR : va_nd isR = true) (hdis : ∀ i ∈ isR, i ∉ isC) (hF : isF.map (fun i => (wr ++ w1)[i]?) = wF.map some) (hnF : va_nd isF = true)
    (hn : As.length = n) (hsize : ls.size = nL) (hst : st0 = As.reverse ++ rest) (hW : (rest.map fun v => v.category).sum ≤ 8) (hdg : decode cc pc = .ok (.invokestatic index, 3)) (hf : cells + 0 ≤ R.cells ∧ slots + 0 ≤ R.slots)
    (kk : ∀ (H1 : Heap) (locs1 : List Loc), va_P D vwCl wF H1 → va_D A wF → va_S A H0 H1 locs1 → W p l e R s m args below meth c H1 locs1 cells slots Q (F0 m (pc + 3) ls (.int r :: rest))) : W p l e R s m args below meth c H locs cells slots Q (F0 m pc ls st0) := by
  have hFc := va_free (wc := wc) hD hS hA isC hC
  refine va_calli (va_runS S (hM H.size) cw ⟨ct_blind, fun U hU hW => kc_pre hK hP hD isC hC hnC U hU hW⟩ rfl hn hsize hst (lv_room hW) hdg hf) hS (fun q _ h => hFc q h) hFc (fun r1 u t H1 locs1 ht hvm hw hB hz1 hk1 hS1 => ?_)
  subst hw
  obtain ⟨hP1, hK1, hD1⟩ := hB
  rw [ht] at hP1
  obtain ⟨hP2, hD2⟩ := va_join (wr := wr) (w1 := w1) hP hD isC isR hC hR hnR hdis hk1 hFc hP1 hD1
  exact kk H1 locs1 (hP2.sub isF (ct_fm hF)) (hD2.sub isF hnF hF) hS1
theorem kc_sv (S : CallFix p m c cc nL s args Ts own) (hM : Ctv l y ws rm D tys wc w1 As) (cw : CallB R s args own index y bytes maxL ret ws rm 0 0 n ∧ (Cond.static y).before args s = true)
    (hK : va_K D vwCl tys s) (hP : va_P D vwCl w H) (hD : va_D A w) (hS : va_S A H0 H locs) (hA : ∀ q : Nat, H0.size ≤ q → A q) (isC isR isF : List Nat)
    (hC : isC.map (fun i => w[i]?) = wc.map some) (hnC : va_nd isC = true) (hR : isR.map (fun i => w[i]?) = wr.map some) (hnR : va_nd isR = true) (hdis : ∀ i ∈ isR, i ∉ isC) (hF : isF.map (fun i => (wr ++ w1)[i]?) = wF.map some) (hnF : va_nd isF = true)
    (hn : As.length = n) (hsize : ls.size = nL) (hst : st0 = As.reverse ++ rest) (hW : (rest.map fun v => v.category).sum ≤ 8) (hdg : decode cc pc = .ok (.invokestatic index, 3)) (hf : cells + 0 ≤ R.cells ∧ slots + 0 ≤ R.slots)
    (kk : ∀ (H1 : Heap) (locs1 : List Loc), va_P D vwCl wF H1 → va_D A wF → va_S A H0 H1 locs1 → W p l e R s m args below meth c H1 locs1 cells slots Q (F0 m (pc + 3) ls rest)) : W p l e R s m args below meth c H locs cells slots Q (F0 m pc ls st0) := by
  have hFc := va_free (wc := wc) hD hS hA isC hC
  refine va_callv (va_runS S (hM H.size) cw ⟨ct_blind, fun U hU hW => kc_pre hK hP hD isC hC hnC U hU hW⟩ rfl hn hsize hst (lv_room hW) hdg hf) hS (fun q _ h => hFc q h) hFc (fun u t H1 locs1 ht hvm hw hB hz1 hk1 hS1 => ?_)
  obtain ⟨hP1, hK1, hD1⟩ := hB
  rw [ht] at hP1
  obtain ⟨hP2, hD2⟩ := va_join (wr := wr) (w1 := w1) hP hD isC isR hC hR hnR hdis hk1 hFc hP1 hD1
  exact kk H1 locs1 (hP2.sub isF (ct_fm hF)) (hD2.sub isF hnF hF) hS1
/-! rows of the kit with the new value under a name -/
variable {a q1 t0 : Nat} {cA : ClassId} {N : Nat}
theorem kn_i {x v : Int32} (ev : v = x) (k : W p l e R s m args below meth c H locs cells slots Q (F0 m pc ls (.int v :: rest))) : W p l e R s m args below meth c H locs cells slots Q (F0 m pc ls (.int x :: rest)) := ev ▸ k
theorem kn_l {x v : Int64} (ev : v = x) (k : W p l e R s m args below meth c H locs cells slots Q (F0 m pc ls (.long v :: rest))) : W p l e R s m args below meth c H locs cells slots Q (F0 m pc ls (.long x :: rest)) := ev ▸ k
theorem ka_ild (hexec : p.tables.exec = Jvm.exec) (hb : c.code = cc) (hK : va_K D vwCl tys s) (hP : va_P D vwCl w H) (q0 t0 : Nat) {f : Nat → Int32} {i v : Int32} (ev : v = f i.toNatClampNeg) (ha : w[q0]? = some (a, .inl (cA, N, .inl f))) (ht : tys[t0]? = some (cA, .int)) (hin : vp_in i N) (hdg : decode cc pc = .ok (.iaload, 1))
    (kk : W p l e R s m args below meth c H locs cells slots Q (F0 m (pc + 1) ls (.int v :: rest))) : W p l e R s m args below meth c H locs cells slots Q (F0 m pc ls (.int i :: .ref a :: rest)) := by
  subst ev; exact va_iald hexec hb hK hP q0 t0 ha ht hin hdg kk
theorem ka_zld (hexec : p.tables.exec = Jvm.exec) (hb : c.code = cc) (hK : va_K D vwCl tys s) (hP : va_P D vwCl w H) (q0 t0 : Nat) {f : Nat → Int32} {i v : Int32} (ev : v = f i.toNatClampNeg) (ha : w[q0]? = some (a, .inl (cA, N, .inl f))) (ht : tys[t0]? = some (cA, .boolean)) (hin : vp_in i N) (hdg : decode cc pc = .ok (.baload, 1))
    (kk : W p l e R s m args below meth c H locs cells slots Q (F0 m (pc + 1) ls (.int v :: rest))) : W p l e R s m args below meth c H locs cells slots Q (F0 m pc ls (.int i :: .ref a :: rest)) := by
  subst ev; exact va_zald hexec hb hK hP q0 t0 ha ht hin hdg kk
theorem ka_lld (hexec : p.tables.exec = Jvm.exec) (hb : c.code = cc) (hK : va_K D vwCl tys s) (hP : va_P D vwCl w H) (q0 t0 : Nat) {f : Nat → Int64} {i : Int32} {v : Int64} (ev : v = f i.toNatClampNeg) (ha : w[q0]? = some (a, .inl (cA, N, .inr (.inl f)))) (ht : tys[t0]? = some (cA, .long)) (hin : vp_in i N) (hdg : decode cc pc = .ok (.laload, 1))
    (kk : W p l e R s m args below meth c H locs cells slots Q (F0 m (pc + 1) ls (.long v :: rest))) : W p l e R s m args below meth c H locs cells slots Q (F0 m pc ls (.int i :: .ref a :: rest)) := by
  subst ev; exact va_lald hexec hb hK hP q0 t0 ha ht hin hdg kk
theorem ka_ist (hexec : p.tables.exec = Jvm.exec) (hb : c.code = cc) (hK : va_K D vwCl tys s) (hP : va_P D vwCl w H) (hD : va_D A w) (hS : va_S A H0 H locs) (q0 t0 : Nat) {f g : Nat → Int32} {i x : Int32} (eg : g = upd f i.toNatClampNeg x) (ha : w[q0]? = some (a, .inl (cA, N, .inl f))) (ht : tys[t0]? = some (cA, .int)) (hin : vp_in i N) (hdg : decode cc pc = .ok (.iastore, 1)) (hw : w.set q0 (a, .inl (cA, N, .inl g)) = w1)
    (kk : ∀ (H1 : Heap) (locs1 : List Loc), va_P D vwCl w1 H1 → va_D A w1 → va_S A H0 H1 locs1 → W p l e R s m args below meth c H1 locs1 cells slots Q (F0 m (pc + 1) ls rest)) : W p l e R s m args below meth c H locs cells slots Q (F0 m pc ls (.int x :: .int i :: .ref a :: rest)) := by
  subst eg; subst hw; exact va_iast hexec hb hK hP hD hS q0 t0 ha ht hin hdg kk
theorem ka_zst (hexec : p.tables.exec = Jvm.exec) (hb : c.code = cc) (hK : va_K D vwCl tys s) (hP : va_P D vwCl w H) (hD : va_D A w) (hS : va_S A H0 H locs) (q0 t0 : Nat) {f g : Nat → Int32} {i x : Int32} (eg : g = upd f i.toNatClampNeg (vp_nar .boolean x)) (ha : w[q0]? = some (a, .inl (cA, N, .inl f))) (ht : tys[t0]? = some (cA, .boolean)) (hin : vp_in i N) (hdg : decode cc pc = .ok (.bastore, 1)) (hw : w.set q0 (a, .inl (cA, N, .inl g)) = w1)
    (kk : ∀ (H1 : Heap) (locs1 : List Loc), va_P D vwCl w1 H1 → va_D A w1 → va_S A H0 H1 locs1 → W p l e R s m args below meth c H1 locs1 cells slots Q (F0 m (pc + 1) ls rest)) : W p l e R s m args below meth c H locs cells slots Q (F0 m pc ls (.int x :: .int i :: .ref a :: rest)) := by
  subst eg; subst hw; exact va_zast hexec hb hK hP hD hS q0 t0 ha ht hin hdg kk
theorem ka_lst (hexec : p.tables.exec = Jvm.exec) (hb : c.code = cc) (hK : va_K D vwCl tys s) (hP : va_P D vwCl w H) (hD : va_D A w) (hS : va_S A H0 H locs) (q0 t0 : Nat) {f g : Nat → Int64} {i : Int32} {x : Int64} (eg : g = vp_updL f i.toNatClampNeg x) (ha : w[q0]? = some (a, .inl (cA, N, .inr (.inl f)))) (ht : tys[t0]? = some (cA, .long)) (hin : vp_in i N) (hdg : decode cc pc = .ok (.lastore, 1)) (hw : w.set q0 (a, .inl (cA, N, .inr (.inl g))) = w1)
    (kk : ∀ (H1 : Heap) (locs1 : List Loc), va_P D vwCl w1 H1 → va_D A w1 → va_S A H0 H1 locs1 → W p l e R s m args below meth c H1 locs1 cells slots Q (F0 m (pc + 1) ls rest)) : W p l e R s m args below meth c H locs cells slots Q (F0 m pc ls (.long x :: .int i :: .ref a :: rest)) := by
  subst eg; subst hw; exact va_last hexec hb hK hP hD hS q0 t0 ha ht hin hdg kk
theorem ka_put {own ref C : String} {T : u_T} {Nf ci index : Nat} {Ts : List Cond} (hexec : p.tables.exec = Jvm.exec) (hb : c.code = cc) (hts : ∀ w ∈ Ts, w.before args s = true) (hin : ∀ w ∈ u_ws C T Nf, w ∈ Ts) (ty0 : Nat → FieldType) (hty : ∀ k, k < Nf → parseFieldDescriptor (T k).2.2.1 = some (ty0 k)) (hnm : ∀ a, a < Nf → ∀ b, b < Nf → a ≠ b → (T a).2.1 ≠ (T b).2.1) (hown : s.vm.findClass own = some m.cls) (hK : va_K D vwCl tys s) (hP : va_P D vwCl w H) (hD : va_D A w) (hS0 : va_S A H0 H locs) (q0 : Nat) {fs : List Value} (he : w[q0]? = some (a, .inr (ci, fs))) (hc : vwCl[ci]? = some (C, T, Nf)) (k : Nat) (hk : k < Nf) (hlink : (Cond.fieldLink own index ref (T k).2.1 (T k).2.2.1).before args s = true) (href : (T k).1 = ref) (hfin : (T k).2.2.2 = false) {v : Int32} (hd : parseFieldDescriptor (T k).2.2.1 = some .int) (hl : k < fs.length)
    (hdg : decode cc pc = .ok (.putfield index, 3)) (hw : w.set q0 (a, .inr (ci, fs.set k (.int v))) = w1) (kk : ∀ (H1 : Heap) (locs1 : List Loc), va_P D vwCl w1 H1 → va_D A w1 → va_S A H0 H1 locs1 → W p l e R s m args below meth c H1 locs1 cells slots Q (F0 m (pc + 3) ls rest)) : W p l e R s m args below meth c H locs cells slots Q (F0 m pc ls (.int v :: .ref a :: rest)) := by
  subst hw
  exact va_put (ty := .int) hexec hb hts hin ty0 hty hnm hown hK hP hD hS0 q0 he hc k hk hlink (fun x h => href ▸ h) hfin hd rfl rfl hl hdg kk
theorem ka_get {own ref C : String} {T : u_T} {Nf ci index : Nat} {Ts : List Cond} (hexec : p.tables.exec = Jvm.exec) (hb : c.code = cc) (hts : ∀ w ∈ Ts, w.before args s = true) (hin : ∀ w ∈ u_ws C T Nf, w ∈ Ts) (hown : s.vm.findClass own = some m.cls) (hK : va_K D vwCl tys s) (hP : va_P D vwCl w H) (q0 : Nat) {fs : List Value} (he : w[q0]? = some (a, .inr (ci, fs))) (hc : vwCl[ci]? = some (C, T, Nf)) (k : Nat) (hk : k < Nf) (hlink : (Cond.fieldLink own index ref (T k).2.1 (T k).2.2.1).before args s = true) (href : (T k).1 = ref) {v : Value} (hv : fs[k]? = some v)
    (hdg : decode cc pc = .ok (.getfield index, 3)) (kk : W p l e R s m args below meth c H locs cells slots Q (F0 m (pc + 3) ls (v :: rest))) : W p l e R s m args below meth c H locs cells slots Q (F0 m pc ls (.ref a :: rest)) :=
  va_get hexec hb hts hin hown hK hP q0 he hc k hk hlink (fun x h => href ▸ h) hv hdg kk
end KC
abbrev tyL (cI cJ cZ cA : ClassId) : List (ClassId × FieldType) := [(cI, .int), (cJ, .long), (cZ, .boolean), (cA, .array .int)]
theorem ne_toInt {x k : Int32} (h : ¬ x = k) : x.toInt ≠ k.toInt := fun e => h (Int32.toInt_inj.mp e)
theorem sw_out0_3 {x : Int32} (c0 : ¬ x = 0) (c1 : ¬ x = 1) (c2 : ¬ x = 2) (c3 : ¬ x = 3) : x.toInt < 0 ∨ 3 < x.toInt := by
  have a0 : x.toInt ≠ 0 := ne_toInt c0
  have a1 : x.toInt ≠ 1 := ne_toInt c1
  have a2 : x.toInt ≠ 2 := ne_toInt c2
  have a3 : x.toInt ≠ 3 := ne_toInt c3
  omega
theorem sw_out1_3 {x : Int32} (c1 : ¬ x = 1) (c2 : ¬ x = 2) (c3 : ¬ x = 3) : x.toInt < 1 ∨ 3 < x.toInt := by
  have a1 : x.toInt ≠ 1 := ne_toInt c1
  have a2 : x.toInt ≠ 2 := ne_toInt c2
  have a3 : x.toInt ≠ 3 := ne_toInt c3
  omega
theorem sw_out0_7 {x : Int32} (c0 : ¬ x = 0) (c1 : ¬ x = 1) (c2 : ¬ x = 2) (c3 : ¬ x = 3) (c4 : ¬ x = 4) (c5 : ¬ x = 5) (c6 : ¬ x = 6) (c7 : ¬ x = 7) : x.toInt < 0 ∨ 7 < x.toInt := by
  have a0 : x.toInt ≠ 0 := ne_toInt c0
  have a1 : x.toInt ≠ 1 := ne_toInt c1
  have a2 : x.toInt ≠ 2 := ne_toInt c2
  have a3 : x.toInt ≠ 3 := ne_toInt c3
  have a4 : x.toInt ≠ 4 := ne_toInt c4
  have a5 : x.toInt ≠ 5 := ne_toInt c5
  have a6 : x.toInt ≠ 6 := ne_toInt c6
  have a7 : x.toInt ≠ 7 := ne_toInt c7
  omega
theorem lk_out3_4 {x : Int32} (c3 : ¬ x = 3) (c4 : ¬ x = 4) : Op.lookupswitch.offset [(3, 25), (4, 31)] 38 x.toInt = 38 := by
  have a3 : x.toInt ≠ 3 := ne_toInt c3
  have a4 : x.toInt ≠ 4 := ne_toInt c4
  simp [Op.lookupswitch.offset, a3, a4, Ne.symm a3, Ne.symm a4]
