/-! rows of the sheets' items; contracts of the methods that read the three words -/
def rwA (r : Nat → Nat) : Nat → Option Nat := fun i => if i < 8 then some (r i) else none
def rwx {β : Type} (i : Int32) (k : Nat → Option β) : Option β := if ib i 8 = true then k i.toNatClampNeg else none
theorem rwx_s {β : Type} {i : Int32} {k : Nat → Option β} {r : β} (h : rwx i k = some r) : ∃ j, j = i.toNatClampNeg ∧ vp_in i 8 ∧ j < 8 ∧ k j = some r := by
  unfold rwx at h
  by_cases c : ib i 8 = true
  · rw [if_pos c] at h
    have hin := ib_in c
    exact ⟨_, rfl, hin, Nat.not_le.mp fun q => hin (Or.inr q), h⟩
  · rw [if_neg c] at h; cases h
theorem lt8 {j : Nat} (h : j < 8) : j = 0 ∨ j = 1 ∨ j = 2 ∨ j = 3 ∨ j = 4 ∨ j = 5 ∨ j = 6 ∨ j = 7 := by omega
section KX
variable {p : Program} {l : Launch} {e : Env} {R : Room} {s : State} {m : MethodId} {args : Array Value} {below : List Frame} {meth : Method} {c : Code} {H H0 : Heap} {locs : List Loc} {cells slots : Nat} {Q : State → Prop}
  {Ts ws ws' : List Cond} {cc bytes : ByteArray} {nL maxL index n pc : Nat} {own C : String} {y : MethodName} {ret : Option FieldType} {rm : Room} {ls : Array Slot}
  {b : Addr} {As rest st0 : List Value} {D : va_G} {tys : List (ClassId × FieldType)} {w wc w1 wr wF : va_W} {A : Nat → Prop} {q : vw_C} {fs : List Value} {ci : Nat} {av : List Value} {a : Nat} {cA : ClassId}
theorem ka_ald (hexec : p.tables.exec = Jvm.exec) (hb : c.code = cc) (hK : va_K D vwCl tys s) (hP : va_P D vwCl w H) (q0 t0 : Nat) {r : Nat → Nat} {i : Int32} {j : Nat} (ej : j = i.toNatClampNeg) (ha : w[q0]? = some (a, .inl (cA, 8, .inr (.inr (.inr (.inr (rwA r))))))) (ht : tys[t0]? = some (cA, .array .int)) (hin : vp_in i 8) (hj : j < 8) (hdg : decode cc pc = .ok (.aaload, 1))
    (kk : W p l e R s m args below meth c H locs cells slots Q (F0 m (pc + 1) ls (.ref (r j) :: rest))) : W p l e R s m args below meth c H locs cells slots Q (F0 m pc ls (.int i :: .ref a :: rest)) := by
  subst ej
  have hr : va_rf (rwA r i.toNatClampNeg) = .ref (r i.toNatClampNeg) := by simp [rwA, hj, va_rf]
  refine W.aald (v := va_rf (rwA r i.toNatClampNeg)) (ty := .array .int) hexec hb (hP q0 _ ha) ((hK.2 t0 _ ht).1 8 (fun j => va_rf (rwA r j))) rfl (fun q => by cases q) (by show ¬ (i < 0 ∨ (arrV _ _ _).slots.size ≤ _); rw [arrV_size]; exact hin) (by show (arrV _ _ _).slots[_]? = _; rw [arrV_read _ _ hj]) rfl rfl hdg ?_
  rw [hr]
  exact kk
def XS (sk sv : Nat → Nat) (A : Nat → Prop) (U : State) (H : Heap) : Prop :=
  vk_S 3 [5, 3, 5] [[114, 111, 117, 110, 100], [97, 108, 108], [116, 119, 105, 99, 101]] sk sv A U H ∧ vk_R RX2 75 "round" (sk 0) U ∧ vk_R RX2 81 "all" (sk 1) U ∧ vk_R RX2 83 "twice" (sk 2) U ∧ va_Z "java/lang/String" "COMPACT_STRINGS" "Z" (.int 1) A U H ∧ va_Zq "jdk/internal/util/Preconditions" "SIOOBE_FORMATTER" "Ljava/util/function/BiFunction;" A U H
theorem XS.warm {sk sv : Nat → Nat} {U : State} (hW : s.WarmedH U.vm) (h : XS sk sv A s H) : XS sk sv A U H :=
  ⟨h.1.moved hW.alike, h.2.1.warm hW, h.2.2.1.warm hW, h.2.2.2.1.warm hW, h.2.2.2.2.1.moved hW.alike, h.2.2.2.2.2.moved hW.alike⟩
theorem XS.calling {sk sv : Nat → Nat} {U : State} {g : JFrame} {mk : MethodId} {v : Array Value} (h : XS sk sv A U H) : XS sk sv A (U.calling g mk v) H :=
  ⟨h.1.moved (Vm.Alike.refl U.vm), vk_R.same (u := U) rfl h.2.1, vk_R.same (u := U) rfl h.2.2.1, vk_R.same (u := U) rfl h.2.2.2.1, h.2.2.2.2.1.moved (Vm.Alike.refl U.vm), h.2.2.2.2.2.moved (Vm.Alike.refl U.vm)⟩
theorem XS.kept {sk sv : Nat → Nat} {H1 : Heap} (h : XS sk sv A s H) (hq : ∀ a : Nat, a < H.size → ¬ A a → H1[a]? = H[a]?) : XS sk sv A s H1 :=
  ⟨h.1.kept hq, h.2.1, h.2.2.1, h.2.2.2.1, h.2.2.2.2.1.kept hq, h.2.2.2.2.2.kept hq⟩
theorem XS.narrow {sk sv : Nat → Nat} {B : Nat → Prop} (h : XS sk sv A s H) (hAB : ∀ q, B q → A q) : XS sk sv B s H :=
  ⟨h.1.narrow hAB, h.2.1, h.2.2.1, h.2.2.2.1, h.2.2.2.2.1.narrow hAB, h.2.2.2.2.2.narrow hAB⟩
def ct_PX (D : va_G) (tys : List (ClassId × FieldType)) (sk sv : Nat → Nat) (wc : va_W) (sz : Nat) (av : List Value) : Array Value → State → Prop := va_Pc av (fun U => U.heap.size = sz ∧ va_P D vwCl wc U.heap ∧ va_K D vwCl tys U ∧ va_D (fun _ => True) wc ∧ XS sk sv (va_A wc sz) U U.heap)
def CtiX (l : Launch) (y : MethodName) (ws : List Cond) (rm : Room) (D : va_G) (tys : List (ClassId × FieldType)) (sk sv : Nat → Nat) (wc w1 : va_W) (av : List Value) (r : Int32) : Prop := ∀ sz : Nat, Met l y ws rm (ct_PX D tys sk sv wc sz av) (ct_Qi D tys wc w1 r sz) 0 0 (va_A wc sz)
def CtvX (l : Launch) (y : MethodName) (ws : List Cond) (rm : Room) (D : va_G) (tys : List (ClassId × FieldType)) (sk sv : Nat → Nat) (wc w1 : va_W) (av : List Value) : Prop := ∀ sz : Nat, Met l y ws rm (ct_PX D tys sk sv wc sz av) (ct_Qv D tys wc w1 sz) 0 0 (va_A wc sz)
theorem ct_blindX {sk sv : Nat → Nat} {sz : Nat} : FrameBlind (ct_PX D tys sk sv wc sz av) := fun a U g mk q => by
  obtain ⟨q0, q1, qP, qK, qD, qX⟩ := q
  exact ⟨q0, q1, qP, va_K.moved (u := U) (U := U.calling g mk a) (Vm.Alike.refl U.vm) qK, qD, XS.calling qX⟩
theorem ct_intX {ty : FieldType} {r : Int32} {sk sv : Nat → Nat} (hy : plainName y.cls = true) (hw : ws = Cond.code y cc maxL (some ty) :: ws') (hlen : (lg_sl av).length ≤ maxL)
    (body : ∀ (p : Program) (e : Env) (s : State) (m : MethodId) (args : Array Value) (below : List Frame) (meth : Method) (c : Code) (A : Nat → Prop) (Q : State → Prop) (ls : Array Slot),
      p.tables.exec = Jvm.exec → c.code = cc → c.maxLocals = maxL → s.vm.findClass y.cls = some m.cls → (∀ w ∈ ws, w.before args s = true) → (∀ q : Nat, s.heap.size ≤ q → A q) → va_K D vwCl tys s → va_P D vwCl wc s.heap → va_D A wc → va_S A s.heap s.heap [] → lv_has ls maxL (lv_args 0 av) →
      (∀ (H : Heap) (locs : List Loc) (pc : Nat) (ls : Array Slot) (x : Int32), x = r → narrow ty (.int x) = .int x → va_P D vwCl w1 H → va_D A w1 → va_S A s.heap H locs → decode cc pc = .ok (.ireturn, 1) → W p l e rm s m args below meth c H locs 0 0 Q (F0 m pc ls [.int x])) →
      XS sk sv A s s.heap →
      W p l e rm s m args below meth c s.heap [] 0 0 Q (F0 m 0 ls [])) : CtiX l y ws rm D tys sk sv wc w1 av r := by
  intro sz
  refine Met.ofW (cc := cc) (maxL := maxL) (ret := some ty) hy hw ?_
  intro p e s m args below meth c s₁ B hml hv
  obtain ⟨rfl, hsz, hP, hK, hD0, hX⟩ := hv
  have hl := lv_entry av (n := maxL) hlen
  rw [lg_entry_eq]
  subst hsz
  refine body p e s m _ below meth c (va_A wc s.heap.size) _ _ B.exec B.bytes hml (findClass_of_methodNamed B.named) (atoms_spec (ws := ws) B.pre) (fun q h => Or.inr h) hK hP (hD0.self (sz := s.heap.size)) va_S.rf hl ?_ hX
  intro H locs pc ls x hxr hn hP9 hD9 hS hdg
  subst hxr
  exact W.zret B.exec B.bytes B.returns hn (fun t ht hW => ⟨⟨x, (), rfl, rfl, by rw [ht]; exact hP9, va_K.moved hW.alike hK, hD9⟩, hS.F ht⟩) hS.2.2 hdg (hlocks := B.notSynchronized)
theorem ct_voidX {sk sv : Nat → Nat} (hy : plainName y.cls = true) (hw : ws = Cond.code y cc maxL none :: ws') (hlen : (lg_sl av).length ≤ maxL)
    (body : ∀ (p : Program) (e : Env) (s : State) (m : MethodId) (args : Array Value) (below : List Frame) (meth : Method) (c : Code) (A : Nat → Prop) (Q : State → Prop) (ls : Array Slot),
      p.tables.exec = Jvm.exec → c.code = cc → c.maxLocals = maxL → s.vm.findClass y.cls = some m.cls → (∀ w ∈ ws, w.before args s = true) → (∀ q : Nat, s.heap.size ≤ q → A q) → va_K D vwCl tys s → va_P D vwCl wc s.heap → va_D A wc → va_S A s.heap s.heap [] → lv_has ls maxL (lv_args 0 av) →
      (∀ (H : Heap) (locs : List Loc) (pc : Nat) (ls : Array Slot), va_P D vwCl w1 H → va_D A w1 → va_S A s.heap H locs → decode cc pc = .ok (.return_, 1) → W p l e rm s m args below meth c H locs 0 0 Q (F0 m pc ls [])) →
      XS sk sv A s s.heap →
      W p l e rm s m args below meth c s.heap [] 0 0 Q (F0 m 0 ls [])) : CtvX l y ws rm D tys sk sv wc w1 av := by
  intro sz
  refine Met.ofW (cc := cc) (maxL := maxL) (ret := none) hy hw ?_
  intro p e s m args below meth c s₁ B hml hv
  obtain ⟨rfl, hsz, hP, hK, hD0, hX⟩ := hv
  have hl := lv_entry av (n := maxL) hlen
  rw [lg_entry_eq]
  subst hsz
  refine body p e s m _ below meth c (va_A wc s.heap.size) _ _ B.exec B.bytes hml (findClass_of_methodNamed B.named) (atoms_spec (ws := ws) B.pre) (fun q h => Or.inr h) hK hP (hD0.self (sz := s.heap.size)) va_S.rf hl ?_ hX
  intro H locs pc ls hP9 hD9 hS hdg
  exact W.vret B.exec B.bytes B.returns (fun t ht hW => ⟨⟨(), rfl, trivial, by rw [ht]; exact hP9, va_K.moved hW.alike hK, hD9⟩, hS.F ht⟩) hS.2.2 hdg (hlocks := B.notSynchronized)
theorem kc_preX {sk sv : Nat → Nat} (hX : XS sk sv A s s.heap) (hK : va_K D vwCl tys s) (hP : va_P D vwCl w H) (hD : va_D A w) (hS : va_S A s.heap H locs) (hFc : ∀ q, va_A wc H.size q → A q) (isC : List Nat) (hC : isC.map (fun i => w[i]?) = wc.map some) (hnC : va_nd isC = true) (U : State) (hU : U.heap = H) (hW : s.WarmedH U.vm) : ct_PX D tys sk sv wc H.size av av.toArray U :=
  ⟨rfl, by rw [hU], by rw [hU]; exact hP.sub isC (ct_fm hC), va_K.moved hW.alike hK, (hD.sub isC hnC hC).weaken (fun _ _ _ _ => trivial), by rw [hU]; exact ((hX.kept hS.2.1).narrow hFc).warm hW⟩
theorem kc_viX {sk sv : Nat → Nat} {r : Int32} (hX : XS sk sv A s s.heap) (S : CallFix p m c cc nL s args Ts own) (hM : CtiX l y ws rm D tys sk sv wc w1 (.ref b :: As) r) (cw : CallW R s args own C index y bytes maxL ret ws rm 0 0 n)
    (hK : va_K D vwCl tys s) (hP : va_P D vwCl w H) (hD : va_D A w) (hS : va_S A s.heap H locs) (hA : ∀ q : Nat, s.heap.size ≤ q → A q) (isC isR isF : List Nat) (q0 : Nat)
    (hC : isC.map (fun i => w[i]?) = wc.map some) (hnC : va_nd isC = true) (hR : isR.map (fun i => w[i]?) = wr.map some) (hnR : va_nd isR = true) (hdis : ∀ i ∈ isR, i ∉ isC) (hF : isF.map (fun i => (wr ++ w1)[i]?) = wF.map some) (hnF : va_nd isF = true)
    (hci : vwCl[ci]? = some q) (he : wc[q0]? = some (b, .inr (ci, fs))) (hqC : q.1 = C) (hn : As.length = n) (hsize : ls.size = nL) (hst : st0 = As.reverse ++ .ref b :: rest) (hW : (rest.map fun v => v.category).sum ≤ 8) (hdg : decode cc pc = .ok (.invokevirtual index, 3)) (hf : cells + 0 ≤ R.cells ∧ slots + 0 ≤ R.slots)
    (kk : ∀ (H1 : Heap) (locs1 : List Loc), va_P D vwCl wF H1 → va_D A wF → va_S A s.heap H1 locs1 → W p l e R s m args below meth c H1 locs1 cells slots Q (F0 m (pc + 3) ls (.int r :: rest))) : W p l e R s m args below meth c H locs cells slots Q (F0 m pc ls st0) := by
  have hFc := va_free (wc := wc) hD hS hA isC hC
  refine va_calli (va_runV S (hM H.size) cw ⟨ct_blindX, hqC ▸ va_recv hK (hP.sub isC (ct_fm hC)) hci he, fun U hU hW => kc_preX hX hK hP hD hS hFc isC hC hnC U hU hW⟩ rfl hn hsize hst (lv_room hW) hdg hf) hS (fun q _ h => hFc q h) hFc (fun r1 u t H1 locs1 ht hvm hw hB hz1 hk1 hS1 => ?_)
  subst hw
  obtain ⟨hP1, hK1, hD1⟩ := hB
  rw [ht] at hP1
  obtain ⟨hP2, hD2⟩ := va_join (wr := wr) (w1 := w1) hP hD isC isR hC hR hnR hdis hk1 hFc hP1 hD1
  exact kk H1 locs1 (hP2.sub isF (ct_fm hF)) (hD2.sub isF hnF hF) hS1
theorem kc_vvX {sk sv : Nat → Nat} (hX : XS sk sv A s s.heap) (S : CallFix p m c cc nL s args Ts own) (hM : CtvX l y ws rm D tys sk sv wc w1 (.ref b :: As)) (cw : CallW R s args own C index y bytes maxL ret ws rm 0 0 n)
    (hK : va_K D vwCl tys s) (hP : va_P D vwCl w H) (hD : va_D A w) (hS : va_S A s.heap H locs) (hA : ∀ q : Nat, s.heap.size ≤ q → A q) (isC isR isF : List Nat) (q0 : Nat)
    (hC : isC.map (fun i => w[i]?) = wc.map some) (hnC : va_nd isC = true) (hR : isR.map (fun i => w[i]?) = wr.map some) (hnR : va_nd isR = true) (hdis : ∀ i ∈ isR, i ∉ isC) (hF : isF.map (fun i => (wr ++ w1)[i]?) = wF.map some) (hnF : va_nd isF = true)
    (hci : vwCl[ci]? = some q) (he : wc[q0]? = some (b, .inr (ci, fs))) (hqC : q.1 = C) (hn : As.length = n) (hsize : ls.size = nL) (hst : st0 = As.reverse ++ .ref b :: rest) (hW : (rest.map fun v => v.category).sum ≤ 8) (hdg : decode cc pc = .ok (.invokevirtual index, 3)) (hf : cells + 0 ≤ R.cells ∧ slots + 0 ≤ R.slots)
    (kk : ∀ (H1 : Heap) (locs1 : List Loc), va_P D vwCl wF H1 → va_D A wF → va_S A s.heap H1 locs1 → W p l e R s m args below meth c H1 locs1 cells slots Q (F0 m (pc + 3) ls rest)) : W p l e R s m args below meth c H locs cells slots Q (F0 m pc ls st0) := by
  have hFc := va_free (wc := wc) hD hS hA isC hC
  refine va_callv (va_runV S (hM H.size) cw ⟨ct_blindX, hqC ▸ va_recv hK (hP.sub isC (ct_fm hC)) hci he, fun U hU hW => kc_preX hX hK hP hD hS hFc isC hC hnC U hU hW⟩ rfl hn hsize hst (lv_room hW) hdg hf) hS (fun q _ h => hFc q h) hFc (fun u t H1 locs1 ht hvm hw hB hz1 hk1 hS1 => ?_)
  obtain ⟨hP1, hK1, hD1⟩ := hB
  rw [ht] at hP1
  obtain ⟨hP2, hD2⟩ := va_join (wr := wr) (w1 := w1) hP hD isC isR hC hR hnR hdis hk1 hFc hP1 hD1
  exact kk H1 locs1 (hP2.sub isF (ct_fm hF)) (hD2.sub isF hnF hF) hS1
end KX
