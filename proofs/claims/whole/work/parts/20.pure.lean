-- X0_begunBody
def fX0_begunBody (K_length : Int32) (K_begun : Nat → Int32) (p0 : Int32) : Option (Int32) :=
  (if p0 < 0 then some (-1000000) else (if K_length ≤ p0 then some (-1000000) else ldx 16 K_begun p0 (fun v3 => some v3)))
def rmX0_begunBody : Room := { frames := 0, cells := 0, slots := 0, locals := 0 }
-- J6_bitCount_0f7a4
def fJ6_bitCount_0f7a4 (p0 : Int32) : Option (Int32) :=
  bnd (p0 - ((((p0).toUInt32 >>> ((1 : Int32).toUInt32 &&& Int32.toUInt32 31)).toInt32) &&& (1431655765 : Int32))) (fun v1 => bnd ((v1 &&& (858993459 : Int32)) + ((((v1).toUInt32 >>> ((2 : Int32).toUInt32 &&& Int32.toUInt32 31)).toInt32) &&& (858993459 : Int32))) (fun v2 => bnd ((v2 + (((v2).toUInt32 >>> ((4 : Int32).toUInt32 &&& Int32.toUInt32 31)).toInt32)) &&& (252645135 : Int32)) (fun v3 => bnd (v3 + (((v3).toUInt32 >>> ((8 : Int32).toUInt32 &&& Int32.toUInt32 31)).toInt32)) (fun v4 => bnd (v4 + (((v4).toUInt32 >>> ((16 : Int32).toUInt32 &&& Int32.toUInt32 31)).toInt32)) (fun v5 => some (v5 &&& (63 : Int32)))))))
def rmJ6_bitCount_0f7a4 : Room := { frames := 0, cells := 0, slots := 0, locals := 0 }
-- X1_degree
def fX1_degree (N_neighbours : Nat → Int32) (p0 : Int32) : Option (Int32) :=
  ldx 8 N_neighbours p0 (fun v1 => bd1 (fJ6_bitCount_0f7a4 v1) (fun r3 => some r3))
def rmX1_degree : Room := { frames := 1, cells := 0, slots := 0, locals := 20 }
-- X1_mostNeighbours
def fX1_mostNeighbours_c4 (N_posts : Int32) (N_neighbours : Nat → Int32) : Nat → Int32 → Int32 → Option (Int32)
  | 0, _, _ => none
  | n4 + 1, x1, x2 => (if N_posts ≤ x2 then some x1 else bd1 (fX1_degree N_neighbours x2) (fun r2 => bnd (if x1 < r2 then r2 else x1) (fun v4 => fX1_mostNeighbours_c4 N_posts N_neighbours n4 v4 (x2 + 1))))
def fX1_mostNeighbours (N_posts : Int32) (N_neighbours : Nat → Int32) : Option (Int32) :=
  fX1_mostNeighbours_c4 N_posts N_neighbours FU 0 0
def rmX1_mostNeighbours : Room := { frames := 2, cells := 0, slots := 0, locals := 41 }
-- X1_kindOf
def fX1_kindOf (N_posts : Int32) (N_neighbours : Nat → Int32) (p0 : Int32) : Option (Int32) :=
  bd1 (fX1_degree N_neighbours p0) (fun r1 => (if r1 = 0 then some 4 else (if r1 = 1 then some 2 else bd1 (fX1_mostNeighbours N_posts N_neighbours) (fun r5 => (if r1 = r5 then some 3 else some 1)))))
def rmX1_kindOf : Room := { frames := 3, cells := 0, slots := 0, locals := 63 }
-- X0_leave
def fX0_leave (K_length : Int32) (K_begun : Nat → Int32) (p0 : Int32) : Option (Int32 × (Nat → Int32)) :=
  (if 16 ≤ K_length then some (K_length, K_begun) else sti 16 K_begun K_length p0 (fun g2 => some ((K_length + (1 : Int32)), g2)))
def rmX0_leave : Room := { frames := 0, cells := 0, slots := 0, locals := 0 }
-- X0_sizeLent
def fX0_sizeLent (N_neighbours : Nat → Int32) (K_length : Int32) (K_begun : Nat → Int32) (p0 : Int32) : Option (Int32 × Int32 × (Nat → Int32)) :=
  bd2 (fX0_leave K_length K_begun 10) (fun K_length_1 K_begun_2 => bd1 (fX1_degree N_neighbours p0) (fun r4 => some (r4, K_length_1, K_begun_2)))
def rmX0_sizeLent : Room := { frames := 2, cells := 0, slots := 0, locals := 41 }
-- X1_oneStepFrom
def fX1_oneStepFrom_c4 (N_posts : Int32) (N_neighbours : Nat → Int32) : Nat → Int32 → Int32 → Int32 → Option (Int32)
  | 0, _, _, _ => none
  | n4 + 1, x1, x2, x3 => (if N_posts ≤ x3 then some x2 else (if ((x1 >>> (x3 &&& 31)) &&& (1 : Int32)) = 1 then ldx 8 N_neighbours x3 (fun v3 => fX1_oneStepFrom_c4 N_posts N_neighbours n4 x1 (x2 ||| v3) (x3 + 1)) else fX1_oneStepFrom_c4 N_posts N_neighbours n4 x1 x2 (x3 + 1)))
def fX1_oneStepFrom (N_posts : Int32) (N_neighbours : Nat → Int32) (p0 : Int32) : Option (Int32) :=
  fX1_oneStepFrom_c4 N_posts N_neighbours FU p0 p0 0
def rmX1_oneStepFrom : Room := { frames := 0, cells := 0, slots := 0, locals := 0 }
-- X1_width
def fX1_width_c37 (N_posts : Int32) (N_neighbours : Nat → Int32) (k9 : Int32 → Int32 → Int32 → Option (Int32)) (x4 : Int32) (x5 : Int32) (t0 : Int32) : Option (Int32) :=
  k9 x5 t0 (x4 + 1)
def fX1_width_c9 (N_posts : Int32) (N_neighbours : Nat → Int32) : Nat → Int32 → Int32 → Int32 → Option (Int32)
  | 0, _, _, _ => none
  | n9 + 1, x2, x3, x4 => (if N_posts ≤ x4 then some x3 else bd1 (fX1_oneStepFrom N_posts N_neighbours x2) (fun r2 => (if r2 = x2 then fX1_width_c37 N_posts N_neighbours (fX1_width_c9 N_posts N_neighbours n9) x4 r2 x3 else fX1_width_c37 N_posts N_neighbours (fX1_width_c9 N_posts N_neighbours n9) x4 r2 x4)))
def fX1_width (N_posts : Int32) (N_neighbours : Nat → Int32) (p0 : Int32) : Option (Int32) :=
  bnd ((1 : Int32) <<< (p0 &&& 31)) (fun v1 => fX1_width_c9 N_posts N_neighbours FU v1 0 1)
def rmX1_width : Room := { frames := 1, cells := 0, slots := 0, locals := 23 }
-- X0_sizeOfLinked
def fX0_sizeOfLinked (N_posts : Int32) (N_neighbours : Nat → Int32) (K_length : Int32) (K_begun : Nat → Int32) (p0 : Int32) : Option (Int32 × Int32 × (Nat → Int32)) :=
  bd2 (fX0_leave K_length K_begun 11) (fun K_length_1 K_begun_2 => bd3 (fX0_sizeLent N_neighbours K_length_1 K_begun_2 p0) (fun r4 K_length_5 K_begun_6 => bd1 (fX1_width N_posts N_neighbours p0) (fun r8 => some (r4 + r8, K_length_5, K_begun_6))))
def rmX0_sizeOfLinked : Room := { frames := 3, cells := 0, slots := 0, locals := 62 }
-- X0_markLent
def fX0_markLent (K_length : Int32) (K_begun : Nat → Int32) (p0 : Int32) : Option (Int32 × Int32 × (Nat → Int32)) :=
  bd2 (fX0_leave K_length K_begun 20) (fun K_length_1 K_begun_2 => some (p0, K_length_1, K_begun_2))
def rmX0_markLent : Room := { frames := 1, cells := 0, slots := 0, locals := 21 }
-- X0_markOfHub
def fX0_markOfHub (K_length : Int32) (K_begun : Nat → Int32) (p0 : Int32) : Option (Int32 × Int32 × (Nat → Int32)) :=
  bd2 (fX0_leave K_length K_begun 21) (fun K_length_1 K_begun_2 => bd3 (fX0_markLent K_length_1 K_begun_2 p0) (fun r4 K_length_5 K_begun_6 => some (r4 + (100 : Int32), K_length_5, K_begun_6)))
def rmX0_markOfHub : Room := { frames := 2, cells := 0, slots := 0, locals := 42 }
-- X0_markOfA
def fX0_markOfA (N_posts : Int32) (N_neighbours : Nat → Int32) (K_length : Int32) (K_begun : Nat → Int32) (p0 : Int32) (p1 : Int32) : Option (Int32 × Int32 × (Nat → Int32)) :=
  (if p1 ≤ 3 then bd1 (fX1_kindOf N_posts N_neighbours p0) (fun r2 => (if r2 = 3 then bd3 (fX0_markOfHub K_length K_begun p0) (fun r5 K_length_6 K_begun_7 => some (r5, K_length_6, K_begun_7)) else (if r2 = 4 then none else bd3 (fX0_markLent K_length K_begun p0) (fun r10 K_length_11 K_begun_12 => some (r10, K_length_11, K_begun_12))))) else some (0, K_length, K_begun))
def rmX0_markOfA : Room := { frames := 4, cells := 0, slots := 0, locals := 85 }
-- X0_sizeOfHub
def fX0_sizeOfHub (N_posts : Int32) (N_neighbours : Nat → Int32) (K_length : Int32) (K_begun : Nat → Int32) (p0 : Int32) (p1 : Int32) : Option (Int32 × Int32 × (Nat → Int32)) :=
  bd2 (fX0_leave K_length K_begun 13) (fun K_length_1 K_begun_2 => bd3 (fX0_sizeOfLinked N_posts N_neighbours K_length_1 K_begun_2 p0) (fun r4 K_length_5 K_begun_6 => bd3 (fX0_markOfA N_posts N_neighbours K_length_5 K_begun_6 p0 (p1 + (1 : Int32))) (fun r8 K_length_9 K_begun_10 => some (r4 + r8, K_length_9, K_begun_10))))
def rmX0_sizeOfHub : Room := { frames := 5, cells := 0, slots := 0, locals := 107 }
-- X0_sizeOfLeaf
def fX0_sizeOfLeaf (N_posts : Int32) (N_neighbours : Nat → Int32) (K_length : Int32) (K_begun : Nat → Int32) (p0 : Int32) : Option (Int32 × Int32 × (Nat → Int32)) :=
  bd2 (fX0_leave K_length K_begun 12) (fun K_length_1 K_begun_2 => bd3 (fX0_sizeOfLinked N_posts N_neighbours K_length_1 K_begun_2 p0) (fun r4 K_length_5 K_begun_6 => some ((2 : Int32) * r4, K_length_5, K_begun_6)))
def rmX0_sizeOfLeaf : Room := { frames := 4, cells := 0, slots := 0, locals := 83 }
-- X0_sizeOf
def fX0_sizeOf (N_posts : Int32) (N_neighbours : Nat → Int32) (K_length : Int32) (K_begun : Nat → Int32) (p0 : Int32) (p1 : Int32) : Option (Int32 × Int32 × (Nat → Int32)) :=
  (if p1 ≤ 3 then bd1 (fX1_kindOf N_posts N_neighbours p0) (fun r2 => (if r2 = 1 then bd3 (fX0_sizeOfLinked N_posts N_neighbours K_length K_begun p0) (fun r5 K_length_6 K_begun_7 => some (r5, K_length_6, K_begun_7)) else (if r2 = 2 then bd3 (fX0_sizeOfLeaf N_posts N_neighbours K_length K_begun p0) (fun r10 K_length_11 K_begun_12 => some (r10, K_length_11, K_begun_12)) else (if r2 = 3 then bd3 (fX0_sizeOfHub N_posts N_neighbours K_length K_begun p0 p1) (fun r15 K_length_16 K_begun_17 => some (r15, K_length_16, K_begun_17)) else bd3 (fX0_sizeLent N_neighbours K_length K_begun p0) (fun r19 K_length_20 K_begun_21 => some (r19, K_length_20, K_begun_21)))))) else some (0, K_length, K_begun))
def rmX0_sizeOf : Room := { frames := 6, cells := 0, slots := 0, locals := 130 }
-- X0_markOfLone
def fX0_markOfLone (N_posts : Int32) (N_neighbours : Nat → Int32) (K_length : Int32) (K_begun : Nat → Int32) (p0 : Int32) (p1 : Int32) : Option (Int32 × Int32 × (Nat → Int32)) :=
  bd2 (fX0_leave K_length K_begun 22) (fun K_length_1 K_begun_2 => bd3 (fX0_markLent K_length_1 K_begun_2 p0) (fun r4 K_length_5 K_begun_6 => bd3 (fX0_sizeOf N_posts N_neighbours K_length_5 K_begun_6 p0 (p1 + (1 : Int32))) (fun r8 K_length_9 K_begun_10 => some (r4 + r8, K_length_9, K_begun_10))))
def rmX0_markOfLone : Room := { frames := 7, cells := 0, slots := 0, locals := 152 }
-- X0_markOf
def fX0_markOf (N_posts : Int32) (N_neighbours : Nat → Int32) (K_length : Int32) (K_begun : Nat → Int32) (p0 : Int32) (p1 : Int32) : Option (Int32 × Int32 × (Nat → Int32)) :=
  (if p1 ≤ 3 then bd1 (fX1_kindOf N_posts N_neighbours p0) (fun r2 => (if r2 = 3 then bd3 (fX0_markOfHub K_length K_begun p0) (fun r5 K_length_6 K_begun_7 => some (r5, K_length_6, K_begun_7)) else (if r2 = 4 then bd3 (fX0_markOfLone N_posts N_neighbours K_length K_begun p0 p1) (fun r10 K_length_11 K_begun_12 => some (r10, K_length_11, K_begun_12)) else bd3 (fX0_markLent K_length K_begun p0) (fun r14 K_length_15 K_begun_16 => some (r14, K_length_15, K_begun_16))))) else some (0, K_length, K_begun))
def rmX0_markOf : Room := { frames := 8, cells := 0, slots := 0, locals := 175 }
-- X0_answer
def fX0_answer (N_posts : Int32) (N_neighbours : Nat → Int32) (K_length : Int32) (K_begun : Nat → Int32) (p0 : Int32) (p1 : Int32) : Option (Int32 × Int32 × (Nat → Int32)) :=
  (if p1 = 0 then bd3 (fX0_sizeOf N_posts N_neighbours 0 K_begun p0 0) (fun r6 K_length_7 K_begun_8 => some (r6, K_length_7, K_begun_8)) else bd3 (fX0_markOf N_posts N_neighbours 0 K_begun p0 0) (fun r2 K_length_3 K_begun_4 => some (r2, K_length_3, K_begun_4)))
def rmX0_answer : Room := { frames := 9, cells := 0, slots := 0, locals := 197 }
-- X1_size
def fX1_size (N_posts : Int32) : Option (Int32) :=
  some N_posts
def rmX1_size : Room := { frames := 0, cells := 0, slots := 0, locals := 0 }
-- X1_isFull
def fX1_isFull (N_posts : Int32) : Option (Int32) :=
  (if N_posts < 8 then some 0 else some 1)
def rmX1_isFull : Room := { frames := 0, cells := 0, slots := 0, locals := 0 }
-- X1_add
def fX1_add (N_posts : Int32) : Option (Int32 × Int32) :=
  some ((N_posts + (1 : Int32)) - (1 : Int32), (N_posts + (1 : Int32)))
def rmX1_add : Room := { frames := 0, cells := 0, slots := 0, locals := 0 }
-- X1_hasPost
def fX1_hasPost (N_posts : Int32) (p0 : Int32) : Option (Int32) :=
  (if p0 < 0 then some 0 else (if N_posts ≤ p0 then some 0 else some 1))
def rmX1_hasPost : Room := { frames := 0, cells := 0, slots := 0, locals := 0 }
-- X1_allPosts
def fX1_allPosts (N_posts : Int32) : Option (Int32) :=
  some (((1 : Int32) <<< (N_posts &&& 31)) - (1 : Int32))
def rmX1_allPosts : Room := { frames := 0, cells := 0, slots := 0, locals := 0 }
-- X1_hasSet
def fX1_hasSet (N_posts : Int32) (p0 : Int32) : Option (Int32) :=
  bd1 (fX1_allPosts N_posts) (fun r1 => (if (p0 &&& (r1 ^^^ (-1 : Int32))) = 0 then some 1 else some 0))
def rmX1_hasSet : Room := { frames := 1, cells := 0, slots := 0, locals := 20 }
-- X1_isLinked
def fX1_isLinked (N_neighbours : Nat → Int32) (p0 : Int32) (p1 : Int32) : Option (Int32) :=
  ldx 8 N_neighbours p0 (fun v1 => (if ((v1 >>> (p1 &&& 31)) &&& (1 : Int32)) = 1 then some 1 else some 0))
def rmX1_isLinked : Room := { frames := 0, cells := 0, slots := 0, locals := 0 }
-- X1_toggle
def fX1_toggle (N_neighbours : Nat → Int32) (p0 : Int32) (p1 : Int32) : Option (Int32 × (Nat → Int32)) :=
  ldx 8 N_neighbours p0 (fun v1 => sti 8 N_neighbours p0 (v1 ^^^ ((1 : Int32) <<< (p1 &&& 31))) (fun g3 => ldx 8 g3 p1 (fun v5 => sti 8 g3 p1 (v5 ^^^ ((1 : Int32) <<< (p0 &&& 31))) (fun g7 => some (1, g7)))))
def rmX1_toggle : Room := { frames := 0, cells := 0, slots := 0, locals := 0 }
-- X1_neighboursOf
def fX1_neighboursOf (N_neighbours : Nat → Int32) (p0 : Int32) : Option (Int32) :=
  ldx 8 N_neighbours p0 (fun v1 => some v1)
def rmX1_neighboursOf : Room := { frames := 0, cells := 0, slots := 0, locals := 0 }
-- X1_pairs
def fX1_pairs_c4 (N_posts : Int32) (N_neighbours : Nat → Int32) : Nat → Int32 → Int32 → Option (Int32)
  | 0, _, _ => none
  | n4 + 1, x1, x2 => (if N_posts ≤ x2 then some (x1 / 2) else bd1 (fX1_degree N_neighbours x2) (fun r2 => fX1_pairs_c4 N_posts N_neighbours n4 (x1 + r2) (x2 + 1)))
def fX1_pairs (N_posts : Int32) (N_neighbours : Nat → Int32) : Option (Int32) :=
  fX1_pairs_c4 N_posts N_neighbours FU 0 0
def rmX1_pairs : Room := { frames := 2, cells := 0, slots := 0, locals := 41 }
-- X1_reachOf
def fX1_reachOf_c4 (N_posts : Int32) (N_neighbours : Nat → Int32) : Nat → Int32 → Int32 → Option (Int32)
  | 0, _, _ => none
  | n4 + 1, x2, x3 => (if N_posts ≤ x3 then some x2 else bd1 (fX1_oneStepFrom N_posts N_neighbours x2) (fun r2 => fX1_reachOf_c4 N_posts N_neighbours n4 r2 (x3 + 1)))
def fX1_reachOf (N_posts : Int32) (N_neighbours : Nat → Int32) (p0 : Int32) : Option (Int32) :=
  fX1_reachOf_c4 N_posts N_neighbours FU p0 1
def rmX1_reachOf : Room := { frames := 1, cells := 0, slots := 0, locals := 23 }
-- X1_stepsBetween
def fX1_stepsBetween_c7 (N_posts : Int32) (N_neighbours : Nat → Int32) : Nat → Int32 → Int32 → Int32 → Option (Int32)
  | 0, _, _, _ => none
  | n7 + 1, x2, x3, x4 => (if N_posts ≤ x4 then some (-1000000) else (if ((x3 >>> (x2 &&& 31)) &&& (1 : Int32)) = 1 then some x4 else bd1 (fX1_oneStepFrom N_posts N_neighbours x3) (fun r3 => fX1_stepsBetween_c7 N_posts N_neighbours n7 x2 r3 (x4 + 1))))
def fX1_stepsBetween (N_posts : Int32) (N_neighbours : Nat → Int32) (p0 : Int32) (p1 : Int32) : Option (Int32) :=
  bnd ((1 : Int32) <<< (p0 &&& 31)) (fun v1 => fX1_stepsBetween_c7 N_posts N_neighbours FU p1 v1 0)
def rmX1_stepsBetween : Room := { frames := 1, cells := 0, slots := 0, locals := 23 }
-- X1_heardBy
def fX1_heardBy_c72 (N_posts : Int32) (N_neighbours : Nat → Int32) (x2 : Int32) (t0 : Int32) : Option (Int32) :=
  some (t0 &&& (x2 ^^^ (-1 : Int32)))
def fX1_heardBy_c8 (N_posts : Int32) (N_neighbours : Nat → Int32) : Nat → Int32 → Int32 → Int32 → Int32 → Int32 → Option (Int32)
  | 0, _, _, _, _, _ => none
  | n8 + 1, x1, x2, x3, x4, x5 => (if N_posts ≤ x5 then (if x1 = 1 then fX1_heardBy_c72 N_posts N_neighbours x2 (x3 &&& (x4 ^^^ (-1 : Int32))) else fX1_heardBy_c72 N_posts N_neighbours x2 x3) else (if ((x2 >>> (x5 &&& 31)) &&& (1 : Int32)) = 1 then ldx 8 N_neighbours x5 (fun v4 => ldx 8 N_neighbours x5 (fun v6 => fX1_heardBy_c8 N_posts N_neighbours n8 x1 x2 (x3 ||| v6) (x4 ||| (x3 &&& v4)) (x5 + 1))) else fX1_heardBy_c8 N_posts N_neighbours n8 x1 x2 x3 x4 (x5 + 1)))
def fX1_heardBy (N_posts : Int32) (N_neighbours : Nat → Int32) (p0 : Int32) (p1 : Int32) : Option (Int32) :=
  fX1_heardBy_c8 N_posts N_neighbours FU p0 p1 0 0 0
def rmX1_heardBy : Room := { frames := 0, cells := 0, slots := 0, locals := 0 }
-- X1_knowAfter
def fX1_knowAfter (N_posts : Int32) (N_neighbours : Nat → Int32) (p0 : Int32) (p1 : Int32) (p2 : Int32) : Option (Int32) :=
  bd1 (fX1_heardBy N_posts N_neighbours p0 (p1 &&& p2)) (fun r1 => some (p1 ||| r1))
def rmX1_knowAfter : Room := { frames := 1, cells := 0, slots := 0, locals := 25 }
-- X1_isOfKind
def fX1_isOfKind (N_posts : Int32) (N_neighbours : Nat → Int32) (p0 : Int32) (p1 : Int32) : Option (Int32) :=
  bd1 (fX1_kindOf N_posts N_neighbours p0) (fun r1 => (if p1 = 0 then some 1 else (if p1 = r1 then some 1 else (if p1 = 1 then (if r1 = 4 then some 0 else some 1) else some 0))))
def rmX1_isOfKind : Room := { frames := 4, cells := 0, slots := 0, locals := 85 }
-- X1_countOf
def fX1_countOf_c4 (N_posts : Int32) (N_neighbours : Nat → Int32) : Nat → Int32 → Int32 → Int32 → Option (Int32)
  | 0, _, _, _ => none
  | n4 + 1, x1, x2, x3 => (if N_posts ≤ x3 then some x2 else bd1 (fX1_kindOf N_posts N_neighbours x3) (fun r2 => (if r2 = x1 then fX1_countOf_c4 N_posts N_neighbours n4 x1 (x2 + (1 : Int32)) (x3 + 1) else fX1_countOf_c4 N_posts N_neighbours n4 x1 (x2 + (0 : Int32)) (x3 + 1))))
def fX1_countOf (N_posts : Int32) (N_neighbours : Nat → Int32) (p0 : Int32) : Option (Int32) :=
  fX1_countOf_c4 N_posts N_neighbours FU p0 0 0
def rmX1_countOf : Room := { frames := 4, cells := 0, slots := 0, locals := 85 }
-- X2_size
def fX2_size (R_length : Int32) : Option (Int32) :=
  some R_length
def rmX2_size : Room := { frames := 0, cells := 0, slots := 0, locals := 0 }
-- X2_hasRoom
def fX2_hasRoom (R_length : Int32) (p0 : Int32) : Option (Int32) :=
  (if ((300 : Int32) - R_length) < p0 then some 0 else some 1)
def rmX2_hasRoom : Room := { frames := 0, cells := 0, slots := 0, locals := 0 }
-- X2_take
def fX2_take_c5 : Nat → Int32 → (Nat → Int32) → Int64 → Int32 → Option (Int32 × Int32 × (Nat → Int32))
  | 0, _, _, _, _ => none
  | n5 + 1, R_length, R_tape, x1, x4 => (if x4 < 0 then some (R_length, R_length, R_tape) else sti 300 R_tape R_length (((((x1).toUInt64 >>> (((8 : Int32) * x4).toInt64.toUInt64 &&& Int64.toUInt64 63)).toInt64) &&& (255 : Int64)).toInt32) (fun g2 => fX2_take_c5 n5 (R_length + (1 : Int32)) g2 x1 (x4 + (-1))))
def fX2_take (R_length : Int32) (R_tape : Nat → Int32) (p0 : Int64) (p1 : Int32) : Option (Int32 × Int32 × (Nat → Int32)) :=
  fX2_take_c5 FU R_length R_tape p0 (p1 - (1 : Int32))
def rmX2_take : Room := { frames := 0, cells := 0, slots := 0, locals := 0 }
-- X2_giveRounds
def fX2_giveRounds (R_roundsRead : Int32) (R_rounds : Nat → Int32) (T_rounds : Nat → Int32) : Option (Int32 × (Nat → Int32)) :=
  cpx 20 20 R_rounds T_rounds 0 0 R_roundsRead (fun g1 => some (R_roundsRead, g1))
def rmX2_giveRounds : Room := { frames := 1, cells := 0, slots := 0, locals := 60 }
-- X2_tokenPlace
def fX2_tokenPlace (R_start : Int32) : Option (Int32) :=
  some R_start
def rmX2_tokenPlace : Room := { frames := 0, cells := 0, slots := 0, locals := 0 }
-- X2_isLetter
def fX2_isLetter (p0 : Int32) : Option (Int32) :=
  (if p0 < 97 then some 0 else (if 122 < p0 then some 0 else some 1))
def rmX2_isLetter : Room := { frames := 0, cells := 0, slots := 0, locals := 0 }
-- X2_advanceName
def fX2_advanceName_c39 (R_length : Int32) (R_start : Int32) (R_tape : Nat → Int32) (R_token : Int32) (R_behind : Int32) : Option (Int32 × Int32) :=
  bd1 (fX2_isWord R_start R_behind R_tape 0) (fun r1 => (if r1 = 0 then bd1 (fX2_isWord R_start R_behind R_tape 1) (fun r4 => (if r4 = 0 then bd1 (fX2_isWord R_start R_behind R_tape 2) (fun r7 => (if r7 = 0 then some (1, R_behind) else some (4, R_behind))) else some (3, R_behind))) else some (2, R_behind)))
def fX2_advanceName_c0 (R_length : Int32) (R_start : Int32) (R_tape : Nat → Int32) : Nat → Int32 → Int32 → Option (Int32 × Int32)
  | 0, _, _ => none
  | n0 + 1, R_token, R_behind => (if R_length ≤ R_behind then fX2_advanceName_c39 R_length R_start R_tape R_token R_behind else ldx 300 R_tape R_behind (fun v2 => bd1 (fX2_isLetter v2) (fun r4 => (if r4 = 0 then fX2_advanceName_c39 R_length R_start R_tape R_token R_behind else fX2_advanceName_c0 R_length R_start R_tape n0 R_token (R_behind + (1 : Int32))))))
def fX2_advanceName (R_length : Int32) (R_token : Int32) (R_start : Int32) (R_behind : Int32) (R_tape : Nat → Int32) : Option (Int32 × Int32) :=
  fX2_advanceName_c0 R_length R_start R_tape FU R_token R_behind
def rmX2_advanceName : Room := { frames := 9, cells := 0, slots := 0, locals := 322 }
-- X2_isFigure
def fX2_isFigure (p0 : Int32) : Option (Int32) :=
  (if p0 < 48 then some 0 else (if 57 < p0 then some 0 else some 1))
def rmX2_isFigure : Room := { frames := 0, cells := 0, slots := 0, locals := 0 }
-- X2_advanceNumber
def fX2_advanceNumber_c72 (R_length : Int32) (R_start : Int32) (R_tape : Nat → Int32) (k5 : Int32 → Int32 → Int32 → Option (Int32 × Int32 × Int32)) (R_token : Int32) (R_behind : Int32) (R_number : Int32) (t1 : Int32) : Option (Int32 × Int32 × Int32) :=
  k5 R_token (R_behind + (1 : Int32)) t1
def fX2_advanceNumber_c88 (R_length : Int32) (R_start : Int32) (R_tape : Nat → Int32) (R_token : Int32) (R_behind : Int32) (R_number : Int32) : Option (Int32 × Int32 × Int32) :=
  (if 2 < (R_behind - R_start) then some (1, R_behind, R_number) else some (5, R_behind, R_number))
def fX2_advanceNumber_c5 (R_length : Int32) (R_start : Int32) (R_tape : Nat → Int32) : Nat → Int32 → Int32 → Int32 → Option (Int32 × Int32 × Int32)
  | 0, _, _, _ => none
  | n5 + 1, R_token, R_behind, R_number => (if R_length ≤ R_behind then fX2_advanceNumber_c88 R_length R_start R_tape R_token R_behind R_number else ldx 300 R_tape R_behind (fun v2 => bd1 (fX2_isFigure v2) (fun r4 => (if r4 = 0 then fX2_advanceNumber_c88 R_length R_start R_tape R_token R_behind R_number else (if 2 ≤ (R_behind - R_start) then fX2_advanceNumber_c72 R_length R_start R_tape (fX2_advanceNumber_c5 R_length R_start R_tape n5) R_token R_behind R_number R_number else ldx 300 R_tape R_behind (fun v8 => fX2_advanceNumber_c72 R_length R_start R_tape (fX2_advanceNumber_c5 R_length R_start R_tape n5) R_token R_behind R_number (((R_number * (10 : Int32)) + v8) - (48 : Int32))))))))
def fX2_advanceNumber (R_length : Int32) (R_token : Int32) (R_start : Int32) (R_behind : Int32) (R_number : Int32) (R_tape : Nat → Int32) : Option (Int32 × Int32 × Int32) :=
  fX2_advanceNumber_c5 R_length R_start R_tape FU R_token R_behind 0
def rmX2_advanceNumber : Room := { frames := 1, cells := 0, slots := 0, locals := 20 }
-- X2_advance
def fX2_advance_c47 (R_length : Int32) (R_tape : Nat → Int32) (k8 : Int32 → Int32 → Int32 → Int32 → Option (Int32 × Int32 × Int32 × Int32)) (R_token : Int32) (R_start : Int32) (R_behind : Int32) (R_number : Int32) : Option (Int32 × Int32 × Int32 × Int32) :=
  k8 R_token (R_start + (1 : Int32)) R_behind R_number
def fX2_advance_c60 (R_length : Int32) (R_tape : Nat → Int32) (R_token : Int32) (R_start : Int32) (R_behind : Int32) (R_number : Int32) : Option (Int32 × Int32 × Int32 × Int32) :=
  (if R_start < R_length then ldx 300 R_tape R_start (fun v2 => bd1 (fX2_isLetter v2) (fun r4 => (if r4 = 0 then ldx 300 R_tape R_start (fun v7 => bd1 (fX2_isFigure v7) (fun r9 => (if r9 = 0 then ldx 300 R_tape R_start (fun v12 => (if v12 = 59 then some (6, R_start, (R_start + (1 : Int32)), R_number) else some (1, R_start, (R_start + (1 : Int32)), R_number))) else bd3 (fX2_advanceNumber R_length R_token R_start R_start R_number R_tape) (fun R_token_15 R_behind_16 R_number_17 => some (R_token_15, R_start, R_behind_16, R_number_17))))) else bd2 (fX2_advanceName R_length R_token R_start R_start R_tape) (fun R_token_19 R_behind_20 => some (R_token_19, R_start, R_behind_20, R_number))))) else some (0, R_start, R_start, R_number))
def fX2_advance_c8 (R_length : Int32) (R_tape : Nat → Int32) : Nat → Int32 → Int32 → Int32 → Int32 → Option (Int32 × Int32 × Int32 × Int32)
  | 0, _, _, _, _ => none
  | n8 + 1, R_token, R_start, R_behind, R_number => (if R_length ≤ R_start then fX2_advance_c60 R_length R_tape R_token R_start R_behind R_number else ldx 300 R_tape R_start (fun v2 => (if v2 = 32 then fX2_advance_c47 R_length R_tape (fX2_advance_c8 R_length R_tape n8) R_token R_start R_behind R_number else ldx 300 R_tape R_start (fun v5 => (if v5 = 10 then fX2_advance_c47 R_length R_tape (fX2_advance_c8 R_length R_tape n8) R_token R_start R_behind R_number else fX2_advance_c60 R_length R_tape R_token R_start R_behind R_number)))))
def fX2_advance (R_length : Int32) (R_token : Int32) (R_start : Int32) (R_behind : Int32) (R_number : Int32) (R_tape : Nat → Int32) : Option (Int32 × Int32 × Int32 × Int32) :=
  fX2_advance_c8 R_length R_tape FU R_token R_behind R_behind R_number
def rmX2_advance : Room := { frames := 10, cells := 0, slots := 0, locals := 342 }
-- X2_faultOfWord
def fX2_faultOfWord_c43 (R_roundsRead : Int32) (R_token : Int32) : Option (Int32) :=
  (if R_roundsRead < 20 then some 0 else some 3)
def fX2_faultOfWord_c26 (R_roundsRead : Int32) (R_token : Int32) : Option (Int32) :=
  (if R_token = 4 then (if R_roundsRead = 0 then some 2 else fX2_faultOfWord_c43 R_roundsRead R_token) else fX2_faultOfWord_c43 R_roundsRead R_token)
def fX2_faultOfWord (R_roundsRead : Int32) (R_token : Int32) : Option (Int32) :=
  (if R_token = 2 then fX2_faultOfWord_c26 R_roundsRead R_token else (if R_token = 3 then fX2_faultOfWord_c26 R_roundsRead R_token else (if R_token = 4 then fX2_faultOfWord_c26 R_roundsRead R_token else some 1)))
def rmX2_faultOfWord : Room := { frames := 0, cells := 0, slots := 0, locals := 0 }
-- X2_soundsAtWord
def fX2_soundsAtWord (R_roundsRead : Int32) (R_rounds : Nat → Int32) (p0 : Int32) : Option (Int32) :=
  (if p0 = 3 then some (-1) else (if p0 = 4 then (if R_roundsRead ≤ 0 then some 0 else ldx 20 R_rounds (R_roundsRead - (1 : Int32)) (fun v4 => some v4)) else some 0))
def rmX2_soundsAtWord : Room := { frames := 0, cells := 0, slots := 0, locals := 0 }
-- X2_readNumbers
def fX2_readNumbers_c2 (R_length : Int32) (R_roundsRead : Int32) (R_tape : Nat → Int32) : Nat → Int32 → Int32 → Int32 → Int32 → (Nat → Int32) → Int32 → Int32 → Option (Int32 × Int32 × Int32 × Int32 × Int32 × (Nat → Int32))
  | 0, _, _, _, _, _, _, _ => none
  | n2 + 1, R_token, R_start, R_behind, R_number, R_rounds, x1, x2 => (if 8 < x2 then some (0, R_token, R_start, R_behind, R_number, R_rounds) else (if R_token = 5 then (if x1 ≤ R_number then some (2, R_token, R_start, R_behind, R_number, R_rounds) else ldx 20 R_rounds R_roundsRead (fun v4 => (if ((v4 >>> (R_number &&& 31)) &&& (1 : Int32)) = 1 then some (2, R_token, R_start, R_behind, R_number, R_rounds) else ldx 20 R_rounds R_roundsRead (fun v7 => sti 20 R_rounds R_roundsRead (v7 ||| ((1 : Int32) <<< (R_number &&& 31))) (fun g9 => bd4 (fX2_advance R_length R_token R_start R_behind R_number R_tape) (fun R_token_11 R_start_12 R_behind_13 R_number_14 => fX2_readNumbers_c2 R_length R_roundsRead R_tape n2 R_token_11 R_start_12 R_behind_13 R_number_14 g9 x1 (x2 + 1))))))) else some (0, R_token, R_start, R_behind, R_number, R_rounds)))
def fX2_readNumbers (R_length : Int32) (R_roundsRead : Int32) (R_token : Int32) (R_start : Int32) (R_behind : Int32) (R_number : Int32) (R_tape : Nat → Int32) (R_rounds : Nat → Int32) (p0 : Int32) : Option (Int32 × Int32 × Int32 × Int32 × Int32 × (Nat → Int32)) :=
  fX2_readNumbers_c2 R_length R_roundsRead R_tape FU R_token R_start R_behind R_number R_rounds p0 0
def rmX2_readNumbers : Room := { frames := 11, cells := 0, slots := 0, locals := 362 }
-- X2_readRound
def fX2_readRound_c60 (R_length : Int32) (R_tape : Nat → Int32) (R_roundsRead : Int32) (R_token : Int32) (R_start : Int32) (R_behind : Int32) (R_number : Int32) (R_rounds : Nat → Int32) (x3 : Int32) : Option (Int32 × Int32 × Int32 × Int32 × Int32 × Int32 × (Nat → Int32)) :=
  (if x3 = 0 then bnd (R_roundsRead + (1 : Int32)) (fun v2 => bd4 (fX2_advance R_length R_token R_start R_behind R_number R_tape) (fun R_token_3 R_start_4 R_behind_5 R_number_6 => some (x3, v2, R_token_3, R_start_4, R_behind_5, R_number_6, R_rounds))) else some (x3, R_roundsRead, R_token, R_start, R_behind, R_number, R_rounds))
def fX2_readRound_c45 (R_length : Int32) (R_tape : Nat → Int32) (R_roundsRead : Int32) (R_token : Int32) (R_start : Int32) (R_behind : Int32) (R_number : Int32) (R_rounds : Nat → Int32) (x3 : Int32) : Option (Int32 × Int32 × Int32 × Int32 × Int32 × Int32 × (Nat → Int32)) :=
  (if x3 = 0 then (if R_token = 6 then fX2_readRound_c60 R_length R_tape R_roundsRead R_token R_start R_behind R_number R_rounds x3 else fX2_readRound_c60 R_length R_tape R_roundsRead R_token R_start R_behind R_number R_rounds 1) else fX2_readRound_c60 R_length R_tape R_roundsRead R_token R_start R_behind R_number R_rounds x3)
def fX2_readRound (R_length : Int32) (R_roundsRead : Int32) (R_token : Int32) (R_start : Int32) (R_behind : Int32) (R_number : Int32) (R_tape : Nat → Int32) (R_rounds : Nat → Int32) (p0 : Int32) : Option (Int32 × Int32 × Int32 × Int32 × Int32 × Int32 × (Nat → Int32)) :=
  bd1 (fX2_faultOfWord R_roundsRead R_token) (fun r1 => (if r1 = 0 then bd1 (fX2_soundsAtWord R_roundsRead R_rounds R_token) (fun r4 => sti 20 R_rounds R_roundsRead r4 (fun g6 => bd4 (fX2_advance R_length R_token R_start R_behind R_number R_tape) (fun R_token_8 R_start_9 R_behind_10 R_number_11 => (if R_token = 2 then bd6 (fX2_readNumbers R_length R_roundsRead R_token_8 R_start_9 R_behind_10 R_number_11 R_tape g6 p0) (fun r14 R_token_15 R_start_16 R_behind_17 R_number_18 R_rounds_19 => fX2_readRound_c45 R_length R_tape R_roundsRead R_token_15 R_start_16 R_behind_17 R_number_18 R_rounds_19 r14) else fX2_readRound_c45 R_length R_tape R_roundsRead R_token_8 R_start_9 R_behind_10 R_number_11 g6 r1)))) else some (r1, R_roundsRead, R_token, R_start, R_behind, R_number, R_rounds)))
def rmX2_readRound : Room := { frames := 12, cells := 0, slots := 0, locals := 384 }
-- X2_read
def fX2_read_c47 (R_tape : Nat → Int32) (R_length : Int32) (R_roundsRead : Int32) (R_token : Int32) (R_start : Int32) (R_behind : Int32) (R_number : Int32) (R_rounds : Nat → Int32) (x2 : Int32) : Option (Int32 × Int32 × Int32 × Int32 × Int32 × Int32 × Int32 × (Nat → Int32)) :=
  some (x2, 0, R_roundsRead, R_token, R_start, R_behind, R_number, R_rounds)
def fX2_read_c18 (R_tape : Nat → Int32) : Nat → Int32 → Int32 → Int32 → Int32 → Int32 → Int32 → (Nat → Int32) → Int32 → Int32 → Int32 → Option (Int32 × Int32 × Int32 × Int32 × Int32 × Int32 × Int32 × (Nat → Int32))
  | 0, _, _, _, _, _, _, _, _, _, _ => none
  | n18 + 1, R_length, R_roundsRead, R_token, R_start, R_behind, R_number, R_rounds, x1, x2, x3 => (if 20 < x3 then fX2_read_c47 R_tape R_length R_roundsRead R_token R_start R_behind R_number R_rounds x2 else (if x2 = 0 then (if R_token = 0 then fX2_read_c47 R_tape R_length R_roundsRead R_token R_start R_behind R_number R_rounds x2 else bd7 (fX2_readRound R_length R_roundsRead R_token R_start R_behind R_number R_tape R_rounds x1) (fun r4 R_roundsRead_5 R_token_6 R_start_7 R_behind_8 R_number_9 R_rounds_10 => fX2_read_c18 R_tape n18 R_length R_roundsRead_5 R_token_6 R_start_7 R_behind_8 R_number_9 R_rounds_10 x1 r4 (x3 + 1))) else fX2_read_c47 R_tape R_length R_roundsRead R_token R_start R_behind R_number R_rounds x2))
def fX2_read (R_length : Int32) (R_roundsRead : Int32) (R_token : Int32) (R_start : Int32) (R_behind : Int32) (R_number : Int32) (R_tape : Nat → Int32) (R_rounds : Nat → Int32) (p0 : Int32) : Option (Int32 × Int32 × Int32 × Int32 × Int32 × Int32 × Int32 × (Nat → Int32)) :=
  bd4 (fX2_advance R_length R_token R_start 0 R_number R_tape) (fun R_token_1 R_start_2 R_behind_3 R_number_4 => fX2_read_c18 R_tape FU R_length 0 R_token_1 R_start_2 R_behind_3 R_number_4 R_rounds p0 0 0)
def rmX2_read : Room := { frames := 13, cells := 0, slots := 0, locals := 407 }
-- X3_listen
def fX3_listen_c2 (N_posts : Int32) (N_neighbours : Nat → Int32) : Nat → (Nat → Int32) → Int32 → Int32 → Option ((Nat → Int32))
  | 0, _, _, _ => none
  | n2 + 1, Q_heard, x2, x3 => bd1 (fX1_allPosts N_posts) (fun r1 => (if r1 < x3 then some Q_heard else bd1 (fX1_heardBy N_posts N_neighbours x2 x3) (fun r4 => sti 256 Q_heard x3 r4 (fun g6 => fX3_listen_c2 N_posts N_neighbours n2 g6 x2 (x3 + 1)))))
def fX3_listen (N_posts : Int32) (N_neighbours : Nat → Int32) (Q_heard : Nat → Int32) (p1 : Int32) : Option ((Nat → Int32)) :=
  fX3_listen_c2 N_posts N_neighbours FU Q_heard p1 0
def rmX3_listen : Room := { frames := 1, cells := 0, slots := 0, locals := 25 }
-- X3_fewestBehindOneRound
def fX3_fewestBehindOneRound_c37 (Q_heard : Nat → Int32) (Q_fewest : Nat → Int32) (k5 : Int32 → Int32 → Int32 → Option (Int32)) (x1 : Int32) (x2 : Int32) (x3 : Int32) : Option (Int32) :=
  bnd ((x3 - (1 : Int32)) &&& x1) (fun v1 => k5 x1 x2 v1)
def fX3_fewestBehindOneRound_c5 (Q_heard : Nat → Int32) (Q_fewest : Nat → Int32) : Nat → Int32 → Int32 → Int32 → Option (Int32)
  | 0, _, _, _ => none
  | n5 + 1, x1, x2, x3 => (if x3 ≤ 0 then some x2 else ldx 256 Q_heard x3 (fun v2 => (if (x1 ||| v2) = x1 then fX3_fewestBehindOneRound_c37 Q_heard Q_fewest (fX3_fewestBehindOneRound_c5 Q_heard Q_fewest n5) x1 x2 x3 else ldx 256 Q_fewest (x1 ||| v2) (fun v5 => bnd (if v5 < x2 then v5 else x2) (fun v7 => fX3_fewestBehindOneRound_c37 Q_heard Q_fewest (fX3_fewestBehindOneRound_c5 Q_heard Q_fewest n5) x1 v7 x3)))))
def fX3_fewestBehindOneRound (Q_heard : Nat → Int32) (Q_fewest : Nat → Int32) (p0 : Int32) : Option (Int32) :=
  fX3_fewestBehindOneRound_c5 Q_heard Q_fewest FU p0 8 p0
def rmX3_fewestBehindOneRound : Room := { frames := 1, cells := 0, slots := 0, locals := 40 }
-- X3_findFewest
def fX3_findFewest_c11 (Q_heard : Nat → Int32) : Nat → (Nat → Int32) → Int32 → Int32 → Int32 → Option ((Nat → Int32))
  | 0, _, _, _, _ => none
  | n11 + 1, Q_fewest, x1, x2, x3 => (if x3 < x1 then some Q_fewest else (if (x3 &&& x1) = x1 then (if (x3 &&& (x2 ^^^ (-1 : Int32))) = 0 then bd1 (fX3_fewestBehindOneRound Q_heard Q_fewest x3) (fun r4 => sti 256 Q_fewest x3 ((1 : Int32) + r4) (fun g6 => fX3_findFewest_c11 Q_heard n11 g6 x1 x2 (x3 + (-1)))) else fX3_findFewest_c11 Q_heard n11 Q_fewest x1 x2 (x3 + (-1))) else fX3_findFewest_c11 Q_heard n11 Q_fewest x1 x2 (x3 + (-1))))
def fX3_findFewest (Q_heard : Nat → Int32) (Q_fewest : Nat → Int32) (p0 : Int32) (p1 : Int32) : Option ((Nat → Int32)) :=
  sti 256 Q_fewest p1 0 (fun g1 => fX3_findFewest_c11 Q_heard FU g1 p0 p1 (p1 - (1 : Int32)))
def rmX3_findFewest : Room := { frames := 2, cells := 0, slots := 0, locals := 64 }
-- X3_fewestFrom
def fX3_fewestFrom (Q_fewest : Nat → Int32) (p0 : Int32) : Option (Int32) :=
  ldx 256 Q_fewest p0 (fun v1 => some v1)
def rmX3_fewestFrom : Room := { frames := 0, cells := 0, slots := 0, locals := 0 }
-- X3_firstSet
def fX3_firstSet_c2 (Q_heard : Nat → Int32) (Q_fewest : Nat → Int32) : Nat → Int32 → Int32 → Option (Int32)
  | 0, _, _ => none
  | n2 + 1, x1, x2 => (if x1 < x2 then some 0 else (if (x2 &&& (x1 ^^^ (-1 : Int32))) = 0 then ldx 256 Q_heard x2 (fun v3 => ldx 256 Q_fewest (x1 ||| v3) (fun v5 => ldx 256 Q_fewest x1 (fun v7 => (if v7 ≤ v5 then fX3_firstSet_c2 Q_heard Q_fewest n2 x1 (x2 + 1) else some x2)))) else fX3_firstSet_c2 Q_heard Q_fewest n2 x1 (x2 + 1)))
def fX3_firstSet (Q_heard : Nat → Int32) (Q_fewest : Nat → Int32) (p0 : Int32) : Option (Int32) :=
  fX3_firstSet_c2 Q_heard Q_fewest FU p0 1
def rmX3_firstSet : Room := { frames := 0, cells := 0, slots := 0, locals := 0 }
-- X5_soundsIn
def fX5_soundsIn (T_rounds : Nat → Int32) (p0 : Int32) (p1 : Int32) : Option (Int32) :=
  ldx 20 T_rounds p0 (fun v1 => some (v1 &&& p1))
def rmX5_soundsIn : Room := { frames := 0, cells := 0, slots := 0, locals := 0 }
-- X5_soundsOverAndOver
def fX5_soundsOverAndOver (T_size : Int32) (T_rounds : Nat → Int32) (p0 : Int32) (p1 : Int32) : Option (Int32) :=
  (if T_size = 0 then some 0 else nzx T_size (bd1 (fX5_soundsIn T_rounds (p0 - p0 / T_size * T_size) p1) (fun r3 => some r3)))
def rmX5_soundsOverAndOver : Room := { frames := 1, cells := 0, slots := 0, locals := 22 }
-- X3_leavesSomeUntold
def fX3_leavesSomeUntold_c99 (Q_heard : Nat → Int32) (k8 : (Nat → Int32) → Int32 → Int32 → Int32 → Int32 → Int32 → Int32 → Option (Int32 × (Nat → Int32))) (Q_spent : Nat → Int32) (x1 : Int32) (x2 : Int32) (x3 : Int32) (x4 : Int32) (x6 : Int32) : Option (Int32 × (Nat → Int32)) :=
  k8 Q_spent x1 x2 x3 x4 1 (x6 + (-1))
def fX3_leavesSomeUntold_c81 (Q_heard : Nat → Int32) (k8 : (Nat → Int32) → Int32 → Int32 → Int32 → Int32 → Int32 → Int32 → Option (Int32 × (Nat → Int32))) (Q_spent : Nat → Int32) (x1 : Int32) (x2 : Int32) (x3 : Int32) (x4 : Int32) (x5 : Int32) (x6 : Int32) (x7 : Int32) (x8 : Int32) : Option (Int32 × (Nat → Int32)) :=
  (if x5 = 0 then (if x8 = x2 then (if x4 ≤ x7 then k8 Q_spent x1 x2 x3 x4 0 (x6 + (-1)) else fX3_leavesSomeUntold_c99 Q_heard k8 Q_spent x1 x2 x3 x4 x6) else fX3_leavesSomeUntold_c99 Q_heard k8 Q_spent x1 x2 x3 x4 x6) else fX3_leavesSomeUntold_c99 Q_heard k8 Q_spent x1 x2 x3 x4 x6)
def fX3_leavesSomeUntold_c8 (Q_heard : Nat → Int32) : Nat → (Nat → Int32) → Int32 → Int32 → Int32 → Int32 → Int32 → Int32 → Option (Int32 × (Nat → Int32))
  | 0, _, _, _, _, _, _, _ => none
  | n8 + 1, Q_spent, x1, x2, x3, x4, x5, x6 => (if x6 < x1 then zrx x5 (some (x5, Q_spent)) else ldx 256 Q_spent x6 (fun v3 => (if x4 < v3 then fX3_leavesSomeUntold_c8 Q_heard n8 Q_spent x1 x2 x3 x4 x5 (x6 + (-1)) else ldx 256 Q_heard (x6 &&& x3) (fun v6 => (if (x6 ||| v6) = x6 then fX3_leavesSomeUntold_c81 Q_heard (fX3_leavesSomeUntold_c8 Q_heard n8) Q_spent x1 x2 x3 x4 x5 x6 v3 (x6 ||| v6) else ldx 256 Q_spent (x6 ||| v6) (fun v9 => bnd (if v3 < v9 then v3 else v9) (fun v11 => sti 256 Q_spent (x6 ||| v6) v11 (fun g12 => sti 256 g12 x6 (v3 + (1 : Int32)) (fun g14 => fX3_leavesSomeUntold_c81 Q_heard (fX3_leavesSomeUntold_c8 Q_heard n8) g14 x1 x2 x3 x4 x5 x6 v3 (x6 ||| v6))))))))))
def fX3_leavesSomeUntold (Q_heard : Nat → Int32) (Q_spent : Nat → Int32) (p0 : Int32) (p1 : Int32) (p2 : Int32) (p3 : Int32) : Option (Int32 × (Nat → Int32)) :=
  fX3_leavesSomeUntold_c8 Q_heard FU Q_spent p0 p1 p2 p3 0 (p1 - (1 : Int32))
def rmX3_leavesSomeUntold : Room := { frames := 1, cells := 0, slots := 0, locals := 40 }
-- X3_worstRounds
def fX3_worstRounds_c44 (N_posts : Int32) (N_neighbours : Nat → Int32) (T_size : Int32) (T_rounds : Nat → Int32) (Q_heard : Nat → Int32) : Nat → (Nat → Int32) → Int32 → Int32 → Int32 → Int32 → Option (Int32 × (Nat → Int32))
  | 0, _, _, _, _, _ => none
  | n44 + 1, Q_spent, x4, x5, x6, x7 => (if 60 ≤ x7 then some ((-1000000), Q_spent) else bd1 (fX1_allPosts N_posts) (fun r2 => bd1 (fX5_soundsOverAndOver T_size T_rounds x7 r2) (fun r4 => bd2 (fX3_leavesSomeUntold Q_heard Q_spent x5 x6 r4 x4) (fun r6 Q_spent_7 => (if r6 = 0 then some (x7 + (1 : Int32), Q_spent_7) else fX3_worstRounds_c44 N_posts N_neighbours T_size T_rounds Q_heard n44 Q_spent_7 x4 x5 x6 (x7 + 1))))))
def fX3_worstRounds (N_posts : Int32) (N_neighbours : Nat → Int32) (T_size : Int32) (T_rounds : Nat → Int32) (Q_heard : Nat → Int32) (Q_spent : Nat → Int32) (p2 : Int32) (p3 : Int32) : Option (Int32 × (Nat → Int32)) :=
  bnd ((1 : Int32) <<< (p2 &&& 31)) (fun v1 => bd1 (fX1_reachOf N_posts N_neighbours v1) (fun r2 => (if v1 = r2 then some (0, Q_spent) else bnd (fillI 256 Q_spent (p3 + (1 : Int32))) (fun g5 => sti 256 g5 v1 0 (fun g6 => fX3_worstRounds_c44 N_posts N_neighbours T_size T_rounds Q_heard FU g6 p3 v1 r2 0)))))
def rmX3_worstRounds : Room := { frames := 2, cells := 0, slots := 0, locals := 68 }
-- X3_drawFrom
def fX3_drawFrom_c24 (Q_heard : Nat → Int32) : Nat → (Nat → Int64) → Int32 → Int64 → Int32 → Option ((Nat → Int64))
  | 0, _, _, _, _ => none
  | n24 + 1, Q_cases, x2, x3, x5 => (if x5 ≤ 0 then some Q_cases else ldx 256 Q_heard x5 (fun v2 => ldx 256 Q_cases (x2 ||| v2) (fun v4 => stl 256 Q_cases (x2 ||| v2) (v4 + x3) (fun g6 => bnd ((x5 - (1 : Int32)) &&& x2) (fun v8 => fX3_drawFrom_c24 Q_heard n24 g6 x2 x3 v8)))))
def fX3_drawFrom (Q_heard : Nat → Int32) (Q_cases : Nat → Int64) (p0 : Int32) (p1 : Int32) : Option ((Nat → Int64)) :=
  ldx 256 Q_cases p1 (fun v1 => bd1 (fJ6_bitCount_0f7a4 p1) (fun r3 => bnd (v1 <<< ((p0 - r3).toInt64 &&& 63)) (fun v5 => stl 256 Q_cases p1 v5 (fun g6 => fX3_drawFrom_c24 Q_heard FU g6 p1 v5 p1))))
def rmX3_drawFrom : Room := { frames := 1, cells := 0, slots := 0, locals := 20 }
-- X3_drawOneRound
def fX3_drawOneRound_c15 (Q_heard : Nat → Int32) : Nat → (Nat → Int64) → Int32 → Int32 → Int32 → Option ((Nat → Int64))
  | 0, _, _, _, _ => none
  | n15 + 1, Q_cases, x1, x2, x4 => (if x4 < x2 then some Q_cases else ldx 256 Q_cases x4 (fun v2 => (if (lg_cmp v2 0) = 0 then fX3_drawOneRound_c15 Q_heard n15 Q_cases x1 x2 (x4 + (-1)) else bd1 (fX3_drawFrom Q_heard Q_cases x1 x4) (fun Q_cases_5 => fX3_drawOneRound_c15 Q_heard n15 Q_cases_5 x1 x2 (x4 + (-1))))))
def fX3_drawOneRound (Q_heard : Nat → Int32) (Q_cases : Nat → Int64) (p0 : Int32) (p1 : Int32) (p2 : Int32) : Option ((Nat → Int64)) :=
  ldx 256 Q_cases p2 (fun v1 => stl 256 Q_cases p2 (v1 <<< (p0.toInt64 &&& 63)) (fun g3 => fX3_drawOneRound_c15 Q_heard FU g3 p0 p1 (p2 - (1 : Int32))))
def rmX3_drawOneRound : Room := { frames := 2, cells := 0, slots := 0, locals := 45 }
-- X3_casesThatReachAll
def fX3_casesThatReachAll_c32 (N_posts : Int32) (N_neighbours : Nat → Int32) (Q_heard : Nat → Int32) : Nat → (Nat → Int64) → Int32 → Int32 → Int32 → Int32 → Option (Int64 × (Nat → Int64))
  | 0, _, _, _, _, _ => none
  | n32 + 1, Q_cases, x3, x4, x5, x6 => (if x3 ≤ x6 then ldx 256 Q_cases x5 (fun v2 => some (v2, Q_cases)) else bd1 (fX1_size N_posts) (fun r4 => bd1 (fX3_drawOneRound Q_heard Q_cases r4 x4 x5) (fun Q_cases_6 => fX3_casesThatReachAll_c32 N_posts N_neighbours Q_heard n32 Q_cases_6 x3 x4 x5 (x6 + 1))))
def fX3_casesThatReachAll (N_posts : Int32) (N_neighbours : Nat → Int32) (Q_heard : Nat → Int32) (Q_cases : Nat → Int64) (p1 : Int32) (p2 : Int32) : Option (Int64 × (Nat → Int64)) :=
  bnd ((1 : Int32) <<< (p1 &&& 31)) (fun v1 => bd1 (fX1_reachOf N_posts N_neighbours v1) (fun r2 => bnd (fillL 256 Q_cases 0) (fun g4 => stl 256 g4 v1 1 (fun g5 => fX3_casesThatReachAll_c32 N_posts N_neighbours Q_heard FU g5 p2 v1 r2 0))))
def rmX3_casesThatReachAll : Room := { frames := 3, cells := 0, slots := 0, locals := 69 }
-- X4_isMissing
def fX4_isMissing (S_lanes : Nat → Int32) (p0 : Int32) : Option (Int32) :=
  ldx 8 S_lanes p0 (fun v1 => (if v1 = (-1) then some 1 else some 0))
def rmX4_isMissing : Room := { frames := 0, cells := 0, slots := 0, locals := 0 }
-- X4_size
def fX4_size_c4 (S_lanes : Nat → Int32) : Nat → Int32 → Int32 → Option (Int32)
  | 0, _, _ => none
  | n4 + 1, x1, x2 => (if 8 ≤ x2 then some x1 else bd1 (fX4_isMissing S_lanes x2) (fun r2 => (if r2 = 0 then fX4_size_c4 S_lanes n4 (x1 + (1 : Int32)) (x2 + 1) else fX4_size_c4 S_lanes n4 (x1 + (0 : Int32)) (x2 + 1))))
def fX4_size (S_lanes : Nat → Int32) : Option (Int32) :=
  fX4_size_c4 S_lanes FU 0 0
def rmX4_size : Room := { frames := 1, cells := 0, slots := 0, locals := 21 }
-- X4_begin
def fX4_begin (S_lanes : Nat → Int32) (S_sizes : Nat → Int32) (S_rows : Nat → Nat → Int32) (p0 : Int32) (p1 : Int32) (p2 : Int32) : Option ((Nat → Int32) × (Nat → Int32) × (Nat → Nat → Int32)) :=
  sti 8 S_lanes p0 p1 (fun g1 => sti 8 S_sizes p0 p2 (fun g3 => rwx p0 (fun j5 => bnd (fillI 40 (S_rows j5) 0) (fun g7 => bnd (va_up S_rows j5 g7) (fun S_rows_8 => some (g1, g3, S_rows_8))))))
def rmX4_begin : Room := { frames := 1, cells := 0, slots := 0, locals := 23 }
-- X4_remove
def fX4_remove (S_lanes : Nat → Int32) (S_sizes : Nat → Int32) (p0 : Int32) : Option (Int32 × (Nat → Int32)) :=
  sti 8 S_lanes p0 (-1) (fun g1 => ldx 8 S_sizes p0 (fun v3 => some (v3, g1)))
def rmX4_remove : Room := { frames := 0, cells := 0, slots := 0, locals := 0 }
-- X4_hasPlaces
def fX4_hasPlaces (S_sizes : Nat → Int32) (p0 : Int32) (p1 : Int32) (p2 : Int32) : Option (Int32) :=
  (if p1 < 0 then some 0 else (if p2 < 0 then some 0 else ldx 8 S_sizes p0 (fun v3 => (if v3 < p1 then some 0 else ldx 8 S_sizes p0 (fun v6 => (if (v6 - p1) < p2 then some 0 else some 1))))))
def rmX4_hasPlaces : Room := { frames := 0, cells := 0, slots := 0, locals := 0 }
-- X4_findPlaces
def fX4_findPlaces (S_lanes : Nat → Int32) (S_sizes : Nat → Int32) (p0 : Int32) (p1 : Int32) (p2 : Int32) : Option (Int32) :=
  bd1 (fX4_isMissing S_lanes p0) (fun r1 => (if r1 = 0 then bd1 (fX4_hasPlaces S_sizes p0 p1 p2) (fun r4 => (if r4 = 0 then some 2 else some 0)) else some 1))
def rmX4_findPlaces : Room := { frames := 1, cells := 0, slots := 0, locals := 23 }
-- X4_findMove
def fX4_findMove (S_lanes : Nat → Int32) (S_sizes : Nat → Int32) (p0 : Int32) (p1 : Int32) (p2 : Int32) (p3 : Int32) (p4 : Int32) : Option (Int32) :=
  bd1 (fX4_isMissing S_lanes p0) (fun r1 => (if r1 = 0 then bd1 (fX4_isMissing S_lanes p2) (fun r4 => (if r4 = 0 then ldx 8 S_lanes p0 (fun v7 => ldx 8 S_lanes p2 (fun v9 => (if v7 = v9 then bd1 (fX4_hasPlaces S_sizes p0 p1 p4) (fun r12 => (if r12 = 0 then some 2 else bd1 (fX4_hasPlaces S_sizes p2 p3 p4) (fun r15 => (if r15 = 0 then some 2 else some 0)))) else some 5))) else some 1)) else some 1))
def rmX4_findMove : Room := { frames := 1, cells := 0, slots := 0, locals := 23 }
-- X4_narrowed
def fX4_narrowed (p0 : Int32) (p1 : Int32) : Option (Int32) :=
  (if p0 = 0 then some p1.toInt8.toInt32 else (if p0 = 1 then some p1.toInt16.toInt32 else some p1))
def rmX4_narrowed : Room := { frames := 0, cells := 0, slots := 0, locals := 0 }
-- X4_put
def fX4_put (S_lanes : Nat → Int32) (S_rows : Nat → Nat → Int32) (p0 : Int32) (p1 : Int32) (p2 : Int32) : Option (Int32 × (Nat → Nat → Int32)) :=
  rwx p0 (fun j1 => ldx 8 S_lanes p0 (fun v3 => bd1 (fX4_narrowed v3 p2) (fun r5 => sti 40 (S_rows j1) p1 r5 (fun g7 => bnd (va_up S_rows j1 g7) (fun S_rows_11 => rwx p0 (fun j12 => ldx 40 (S_rows_11 j12) p1 (fun v14 => some (v14, S_rows_11))))))))
def rmX4_put : Room := { frames := 1, cells := 0, slots := 0, locals := 21 }
-- X4_move
def fX4_move (S_rows : Nat → Nat → Int32) (p0 : Int32) (p1 : Int32) (p2 : Int32) (p3 : Int32) (p4 : Int32) : Option ((Nat → Nat → Int32)) :=
  rwx p0 (fun j1 => rwx p2 (fun j3 => cpx 40 40 (S_rows j1) (S_rows j3) p1 p3 p4 (fun g5 => bnd (va_up S_rows j3 g5) (fun S_rows_7 => some S_rows_7))))
def rmX4_move : Room := { frames := 1, cells := 0, slots := 0, locals := 60 }
-- X4_picksOne
def fX4_picksOne_c3 (S_rows : Nat → Nat → Int32) : Nat → Int32 → Int32 → Int32 → Int32 → Int32 → Option (Int32)
  | 0, _, _, _, _, _ => none
  | n3 + 1, x1, x2, x3, x4, x5 => (if (x2 + x3) ≤ x5 then some 0 else rwx x1 (fun j2 => ldx 40 (S_rows j2) x5 (fun v4 => bd1 (fJ6_bitCount_0f7a4 (v4 &&& x4)) (fun r7 => (if r7 = 1 then some 1 else fX4_picksOne_c3 S_rows n3 x1 x2 x3 x4 (x5 + 1))))))
def fX4_picksOne (S_rows : Nat → Nat → Int32) (p0 : Int32) (p1 : Int32) (p2 : Int32) (p3 : Int32) : Option (Int32) :=
  fX4_picksOne_c3 S_rows FU p0 p1 p2 p3 p1
def rmX4_picksOne : Room := { frames := 1, cells := 0, slots := 0, locals := 20 }
-- X5_size
def fX5_size (T_size : Int32) : Option (Int32) :=
  some T_size
def rmX5_size : Room := { frames := 0, cells := 0, slots := 0, locals := 0 }
-- X5_become
def fX5_become (R_roundsRead : Int32) (R_rounds : Nat → Int32) (T_size : Int32) (T_rounds : Nat → Int32) : Option (Int32 × (Nat → Int32)) :=
  bd2 (fX2_giveRounds R_roundsRead R_rounds T_rounds) (fun r1 T_rounds_2 => some (r1, T_rounds_2))
def rmX5_become : Room := { frames := 2, cells := 0, slots := 0, locals := 81 }
-- X5_hasRound
def fX5_hasRound (T_size : Int32) (p0 : Int32) : Option (Int32) :=
  (if p0 < 0 then some 0 else (if T_size ≤ p0 then some 0 else some 1))
def rmX5_hasRound : Room := { frames := 0, cells := 0, slots := 0, locals := 0 }
-- X6_isSheet
def fX6_isSheet (p0 : Int32) : Option (Int32) :=
  (if p0 < 0 then some 0 else (if 8 ≤ p0 then some 0 else some 1))
def rmX6_isSheet : Room := { frames := 0, cells := 0, slots := 0, locals := 0 }
-- X6_sheet
def fX6_sheet_c35 (B_latestFinding : Int32) (S_lanes : Nat → Int32) (S_sizes : Nat → Int32) (S_rows : Nat → Nat → Int32) (x1 : Int32) (x2 : Int32) (x3 : Int32) (t1 : Int32) : Option (Int32 × Int32 × (Nat → Int32) × (Nat → Int32) × (Nat → Nat → Int32)) :=
  (if t1 = 0 then bd3 (fX4_begin S_lanes S_sizes S_rows x1 x2 x3) (fun S_lanes_2 S_sizes_3 S_rows_4 => some (x3, t1, S_lanes_2, S_sizes_3, S_rows_4)) else some ((-1000010 : Int32) - t1, t1, S_lanes, S_sizes, S_rows))
def fX6_sheet (B_latestFinding : Int32) (S_lanes : Nat → Int32) (S_sizes : Nat → Int32) (S_rows : Nat → Nat → Int32) (p0 : Int32) (p1 : Int32) (p2 : Int32) : Option (Int32 × Int32 × (Nat → Int32) × (Nat → Int32) × (Nat → Nat → Int32)) :=
  bd1 (fX6_isSheet p0) (fun r1 => (if r1 = 0 then some ((-1000001), B_latestFinding, S_lanes, S_sizes, S_rows) else (if p1 < 0 then some ((-1000001), B_latestFinding, S_lanes, S_sizes, S_rows) else (if 3 ≤ p1 then some ((-1000001), B_latestFinding, S_lanes, S_sizes, S_rows) else (if p2 ≤ 40 then (if 0 ≤ p2 then fX6_sheet_c35 B_latestFinding S_lanes S_sizes S_rows p0 p1 p2 0 else fX6_sheet_c35 B_latestFinding S_lanes S_sizes S_rows p0 p1 p2 4) else some ((-1000001), B_latestFinding, S_lanes, S_sizes, S_rows))))))
def rmX6_sheet : Room := { frames := 2, cells := 0, slots := 0, locals := 46 }
-- X6_set
def fX6_set (B_latestFinding : Int32) (S_lanes : Nat → Int32) (S_sizes : Nat → Int32) (S_rows : Nat → Nat → Int32) (p0 : Int32) (p1 : Int32) (p2 : Int32) : Option (Int32 × Int32 × (Nat → Nat → Int32)) :=
  bd1 (fX6_isSheet p0) (fun r1 => (if r1 = 0 then some ((-1000001), B_latestFinding, S_rows) else bd1 (fX4_findPlaces S_lanes S_sizes p0 p1 1) (fun r4 => (if r4 = 0 then bd2 (fX4_put S_lanes S_rows p0 p1 p2) (fun r7 S_rows_8 => some (r7, r4, S_rows_8)) else some ((-1000010 : Int32) - r4, r4, S_rows)))))
def rmX6_set : Room := { frames := 2, cells := 0, slots := 0, locals := 46 }
-- X6_copy
def fX6_copy (B_latestFinding : Int32) (S_lanes : Nat → Int32) (S_sizes : Nat → Int32) (S_rows : Nat → Nat → Int32) (p0 : Int32) (p1 : Int32) (p2 : Int32) (p3 : Int32) (p4 : Int32) : Option (Int32 × Int32 × (Nat → Nat → Int32)) :=
  bd1 (fX6_isSheet p0) (fun r1 => (if r1 = 0 then some ((-1000001), B_latestFinding, S_rows) else bd1 (fX6_isSheet p2) (fun r4 => (if r4 = 0 then some ((-1000001), B_latestFinding, S_rows) else bd1 (fX4_findMove S_lanes S_sizes p0 p1 p2 p3 p4) (fun r7 => (if r7 = 0 then bd1 (fX4_move S_rows p0 p1 p2 p3 p4) (fun S_rows_10 => some (p4, r7, S_rows_10)) else some ((-1000010 : Int32) - r7, r7, S_rows)))))))
def rmX6_copy : Room := { frames := 2, cells := 0, slots := 0, locals := 85 }
-- X6_drop
def fX6_drop_c27 (S_sizes : Nat → Int32) (B_latestFinding : Int32) (S_lanes : Nat → Int32) (x1 : Int32) (t1 : Int32) : Option (Int32 × Int32 × (Nat → Int32)) :=
  (if t1 = 0 then bd2 (fX4_remove S_lanes S_sizes x1) (fun r2 S_lanes_3 => some (r2, t1, S_lanes_3)) else some ((-1000010 : Int32) - t1, t1, S_lanes))
def fX6_drop (B_latestFinding : Int32) (S_lanes : Nat → Int32) (S_sizes : Nat → Int32) (p0 : Int32) : Option (Int32 × Int32 × (Nat → Int32)) :=
  bd1 (fX6_isSheet p0) (fun r1 => (if r1 = 0 then some ((-1000001), B_latestFinding, S_lanes) else bd1 (fX4_isMissing S_lanes p0) (fun r4 => (if r4 = 0 then fX6_drop_c27 S_sizes B_latestFinding S_lanes p0 0 else fX6_drop_c27 S_sizes B_latestFinding S_lanes p0 1))))
def rmX6_drop : Room := { frames := 1, cells := 0, slots := 0, locals := 21 }
-- X6_post
def fX6_post (N_posts : Int32) : Option (Int32 × Int32) :=
  bd1 (fX1_isFull N_posts) (fun r1 => (if r1 = 0 then bd2 (fX1_add N_posts) (fun r4 N_posts_5 => some (r4, N_posts_5)) else some ((-1000003), N_posts)))
def rmX6_post : Room := { frames := 1, cells := 0, slots := 0, locals := 20 }
-- X6_isPair
def fX6_isPair (N_posts : Int32) (p0 : Int32) (p1 : Int32) : Option (Int32) :=
  bd1 (fX1_hasPost N_posts p0) (fun r1 => (if r1 = 0 then some 0 else bd1 (fX1_hasPost N_posts p1) (fun r4 => (if r4 = 0 then some 0 else (if p0 = p1 then some 0 else some 1)))))
def rmX6_isPair : Room := { frames := 1, cells := 0, slots := 0, locals := 21 }
-- X6_join
def fX6_join (N_posts : Int32) (N_neighbours : Nat → Int32) (p0 : Int32) (p1 : Int32) : Option (Int32 × (Nat → Int32)) :=
  bd1 (fX6_isPair N_posts p0 p1) (fun r1 => (if r1 = 0 then some ((-1000001), N_neighbours) else bd1 (fX1_isLinked N_neighbours p0 p1) (fun r4 => (if r4 = 0 then bd2 (fX1_toggle N_neighbours p0 p1) (fun r7 N_neighbours_8 => some (r7, N_neighbours_8)) else some (0, N_neighbours)))))
def rmX6_join : Room := { frames := 2, cells := 0, slots := 0, locals := 43 }
-- X6_part
def fX6_part (N_posts : Int32) (N_neighbours : Nat → Int32) (p0 : Int32) (p1 : Int32) : Option (Int32 × (Nat → Int32)) :=
  bd1 (fX6_isPair N_posts p0 p1) (fun r1 => (if r1 = 0 then some ((-1000001), N_neighbours) else bd1 (fX1_isLinked N_neighbours p0 p1) (fun r4 => (if r4 = 0 then some (0, N_neighbours) else bd2 (fX1_toggle N_neighbours p0 p1) (fun r7 N_neighbours_8 => some (r7, N_neighbours_8))))))
def rmX6_part : Room := { frames := 2, cells := 0, slots := 0, locals := 43 }
-- X6_far
def fX6_far (N_posts : Int32) (N_neighbours : Nat → Int32) (p0 : Int32) (p1 : Int32) : Option (Int32) :=
  bd1 (fX1_hasPost N_posts p0) (fun r1 => (if r1 = 0 then some (-1000001) else bd1 (fX1_hasPost N_posts p1) (fun r4 => (if r4 = 0 then some (-1000001) else bd1 (fX1_stepsBetween N_posts N_neighbours p0 p1) (fun r7 => some r7)))))
def rmX6_far : Room := { frames := 2, cells := 0, slots := 0, locals := 47 }
-- X6_told
def fX6_told (N_posts : Int32) (N_neighbours : Nat → Int32) (p0 : Int32) (p1 : Int32) : Option (Int32) :=
  bd1 (fX1_hasPost N_posts p0) (fun r1 => (if r1 = 0 then some (-1000001) else (if p1 = 0 then bd1 (fX1_degree N_neighbours p0) (fun r5 => some r5) else (if p1 = 1 then bd1 (fX1_neighboursOf N_neighbours p0) (fun r8 => some r8) else (if p1 = 2 then bd1 (fX1_width N_posts N_neighbours p0) (fun r11 => some r11) else (if p1 = 3 then bd1 (fX1_reachOf N_posts N_neighbours ((1 : Int32) <<< (p0 &&& 31))) (fun r14 => some r14) else some (-1000001)))))))
def rmX6_told : Room := { frames := 2, cells := 0, slots := 0, locals := 48 }
-- X6_isHearing
def fX6_isHearing (p0 : Int32) : Option (Int32) :=
  (if p0 = 0 then some 1 else (if p0 = 1 then some 1 else some 0))
def rmX6_isHearing : Room := { frames := 0, cells := 0, slots := 0, locals := 0 }
-- X6_hears
def fX6_hears (N_posts : Int32) (N_neighbours : Nat → Int32) (p0 : Int32) (p1 : Int32) : Option (Int32) :=
  bd1 (fX6_isHearing p0) (fun r1 => (if r1 = 0 then some (-1000001) else bd1 (fX1_hasSet N_posts p1) (fun r4 => (if r4 = 0 then some (-1000001) else bd1 (fX1_heardBy N_posts N_neighbours p0 p1) (fun r7 => some r7)))))
def rmX6_hears : Room := { frames := 2, cells := 0, slots := 0, locals := 41 }
-- X6_spreads
def fX6_spreads (N_posts : Int32) (N_neighbours : Nat → Int32) (p0 : Int32) (p1 : Int32) (p2 : Int32) : Option (Int32) :=
  bd1 (fX6_isHearing p0) (fun r1 => (if r1 = 0 then some (-1000001) else bd1 (fX1_hasSet N_posts p1) (fun r4 => (if r4 = 0 then some (-1000001) else bd1 (fX1_hasSet N_posts p2) (fun r7 => (if r7 = 0 then some (-1000001) else bd1 (fX1_knowAfter N_posts N_neighbours p0 p1 p2) (fun r10 => some r10)))))))
def rmX6_spreads : Room := { frames := 2, cells := 0, slots := 0, locals := 48 }
-- X6_feed
def fX6_feed (R_length : Int32) (R_tape : Nat → Int32) (p0 : Int64) (p1 : Int32) : Option (Int32 × Int32 × (Nat → Int32)) :=
  (if p1 < 1 then some ((-1000001), R_length, R_tape) else (if p1 ≤ 8 then bd1 (fX2_hasRoom R_length p1) (fun r3 => (if r3 = 0 then some ((-1000003), R_length, R_tape) else bd3 (fX2_take R_length R_tape p0 p1) (fun r6 R_length_7 R_tape_8 => some (r6, R_length_7, R_tape_8)))) else some ((-1000001), R_length, R_tape)))
def rmX6_feed : Room := { frames := 1, cells := 0, slots := 0, locals := 24 }
-- X6_schedule
def fX6_schedule (B_latestFault : Int32) (N_posts : Int32) (R_length : Int32) (R_roundsRead : Int32) (R_token : Int32) (R_start : Int32) (R_behind : Int32) (R_number : Int32) (R_tape : Nat → Int32) (R_rounds : Nat → Int32) (T_size : Int32) (T_rounds : Nat → Int32) : Option (Int32 × Int32 × Int32 × Int32 × Int32 × Int32 × Int32 × Int32 × (Nat → Int32) × Int32 × (Nat → Int32)) :=
  bd1 (fX1_size N_posts) (fun r1 => bd8 (fX2_read R_length R_roundsRead R_token R_start R_behind R_number R_tape R_rounds r1) (fun r3 R_length_4 R_roundsRead_5 R_token_6 R_start_7 R_behind_8 R_number_9 R_rounds_10 => (if r3 = 0 then bd2 (fX5_become R_roundsRead_5 R_rounds_10 T_size T_rounds) (fun T_size_13 T_rounds_14 => bd1 (fX5_size T_size_13) (fun r16 => some (r16, B_latestFault, R_length_4, R_roundsRead_5, R_token_6, R_start_7, R_behind_8, R_number_9, R_rounds_10, T_size_13, T_rounds_14))) else bd1 (fX2_tokenPlace R_start_7) (fun r18 => some ((-1000100 : Int32) - r18, r3, R_length_4, R_roundsRead_5, R_token_6, R_start_7, R_behind_8, R_number_9, R_rounds_10, T_size, T_rounds)))))
def rmX6_schedule : Room := { frames := 14, cells := 0, slots := 0, locals := 430 }
-- X6_fault
def fX6_fault (B_latestFault : Int32) : Option (Int32) :=
  some B_latestFault
def rmX6_fault : Room := { frames := 0, cells := 0, slots := 0, locals := 0 }
-- X6_round
def fX6_round (N_posts : Int32) (T_size : Int32) (T_rounds : Nat → Int32) (p0 : Int32) : Option (Int32) :=
  bd1 (fX5_hasRound T_size p0) (fun r1 => (if r1 = 0 then some (-1000000) else bd1 (fX1_allPosts N_posts) (fun r4 => bd1 (fX5_soundsIn T_rounds p0 r4) (fun r6 => some r6))))
def rmX6_round : Room := { frames := 1, cells := 0, slots := 0, locals := 22 }
-- X6_run
def fX6_run_c52 (N_posts : Int32) (N_neighbours : Nat → Int32) (T_size : Int32) (T_rounds : Nat → Int32) : Nat → Int32 → Int32 → Int32 → Int32 → Option (Int32)
  | 0, _, _, _, _ => none
  | n52 + 1, x1, x3, x4, x5 => (if x3 ≤ x5 then some x4 else bd1 (fX1_allPosts N_posts) (fun r2 => bd1 (fX5_soundsOverAndOver T_size T_rounds x5 r2) (fun r4 => bd1 (fX1_knowAfter N_posts N_neighbours x1 x4 r4) (fun r6 => fX6_run_c52 N_posts N_neighbours T_size T_rounds n52 x1 x3 r6 (x5 + 1)))))
def fX6_run (N_posts : Int32) (N_neighbours : Nat → Int32) (T_size : Int32) (T_rounds : Nat → Int32) (p0 : Int32) (p1 : Int32) (p2 : Int32) : Option (Int32) :=
  bd1 (fX6_isHearing p0) (fun r1 => (if r1 = 0 then some (-1000001) else bd1 (fX1_hasPost N_posts p1) (fun r4 => (if r4 = 0 then some (-1000001) else (if p2 < 0 then some (-1000001) else (if p2 ≤ 60 then bd1 (fX5_size T_size) (fun r9 => (if r9 = 0 then some (-1000002) else bnd ((1 : Int32) <<< (p1 &&& 31)) (fun v12 => fX6_run_c52 N_posts N_neighbours T_size T_rounds FU p0 p2 v12 0))) else some (-1000001)))))))
def rmX6_run : Room := { frames := 2, cells := 0, slots := 0, locals := 48 }
-- X6_least
def fX6_least (N_posts : Int32) (N_neighbours : Nat → Int32) (Q_heard : Nat → Int32) (Q_fewest : Nat → Int32) (p0 : Int32) (p1 : Int32) (p2 : Int32) : Option (Int32 × (Nat → Int32) × (Nat → Int32)) :=
  bd1 (fX6_isHearing p0) (fun r1 => (if r1 = 0 then some ((-1000001), Q_heard, Q_fewest) else (if p1 = 0 then some ((-1000001), Q_heard, Q_fewest) else bd1 (fX1_hasSet N_posts p1) (fun r5 => (if r5 = 0 then some ((-1000001), Q_heard, Q_fewest) else (if p2 < 0 then some ((-1000001), Q_heard, Q_fewest) else (if p2 ≤ 1 then bd1 (fX3_listen N_posts N_neighbours Q_heard p0) (fun Q_heard_10 => bd1 (fX1_reachOf N_posts N_neighbours p1) (fun r12 => bd1 (fX3_findFewest Q_heard_10 Q_fewest p1 r12) (fun Q_fewest_14 => (if p2 = 0 then bd1 (fX3_fewestFrom Q_fewest_14 p1) (fun r19 => some (r19, Q_heard_10, Q_fewest_14)) else bd1 (fX3_firstSet Q_heard_10 Q_fewest_14 p1) (fun r17 => some (r17, Q_heard_10, Q_fewest_14)))))) else some ((-1000001), Q_heard, Q_fewest))))))))
def rmX6_least : Room := { frames := 3, cells := 0, slots := 0, locals := 87 }
-- X6_jammed
def fX6_jammed (N_posts : Int32) (N_neighbours : Nat → Int32) (T_size : Int32) (T_rounds : Nat → Int32) (Q_heard : Nat → Int32) (Q_spent : Nat → Int32) (p0 : Int32) (p1 : Int32) (p2 : Int32) : Option (Int32 × (Nat → Int32) × (Nat → Int32)) :=
  bd1 (fX6_isHearing p0) (fun r1 => (if r1 = 0 then some ((-1000001), Q_heard, Q_spent) else bd1 (fX1_hasPost N_posts p1) (fun r4 => (if r4 = 0 then some ((-1000001), Q_heard, Q_spent) else (if p2 < 0 then some ((-1000001), Q_heard, Q_spent) else (if p2 ≤ 5 then bd1 (fX5_size T_size) (fun r9 => (if r9 = 0 then some ((-1000002), Q_heard, Q_spent) else bd1 (fX3_listen N_posts N_neighbours Q_heard p0) (fun Q_heard_12 => bd2 (fX3_worstRounds N_posts N_neighbours T_size T_rounds Q_heard_12 Q_spent p1 p2) (fun r14 Q_spent_15 => some (r14, Q_heard_12, Q_spent_15))))) else some ((-1000001), Q_heard, Q_spent)))))))
def rmX6_jammed : Room := { frames := 3, cells := 0, slots := 0, locals := 96 }
-- X6_draws
def fX6_draws (N_posts : Int32) (N_neighbours : Nat → Int32) (Q_heard : Nat → Int32) (Q_cases : Nat → Int64) (p0 : Int32) (p1 : Int32) (p2 : Int32) : Option (Int64 × (Nat → Int32) × (Nat → Int64)) :=
  bd1 (fX6_isHearing p0) (fun r1 => (if r1 = 0 then some ((-1000001), Q_heard, Q_cases) else bd1 (fX1_hasPost N_posts p1) (fun r4 => (if r4 = 0 then some ((-1000001), Q_heard, Q_cases) else (if p2 < 0 then some ((-1000001), Q_heard, Q_cases) else (if p2 ≤ 7 then bd1 (fX3_listen N_posts N_neighbours Q_heard p0) (fun Q_heard_9 => bd2 (fX3_casesThatReachAll N_posts N_neighbours Q_heard_9 Q_cases p1 p2) (fun r11 Q_cases_12 => some (r11, Q_heard_9, Q_cases_12))) else some ((-1000001), Q_heard, Q_cases)))))))
def rmX6_draws : Room := { frames := 4, cells := 0, slots := 0, locals := 95 }
-- X6_firstUnpicked
def fX6_firstUnpicked_c3 (S_rows : Nat → Nat → Int32) (N_posts : Int32) : Nat → Int32 → Int32 → Int32 → Int32 → Int32 → Option (Int32)
  | 0, _, _, _, _, _ => none
  | n3 + 1, x1, x2, x3, x4, x5 => bd1 (fX1_allPosts N_posts) (fun r1 => (if r1 < x5 then some (-1000000) else bd1 (fJ6_bitCount_0f7a4 x5) (fun r4 => (if x4 < r4 then fX6_firstUnpicked_c3 S_rows N_posts n3 x1 x2 x3 x4 (x5 + 1) else bd1 (fX4_picksOne S_rows x1 x2 x3 x5) (fun r7 => (if r7 = 0 then some x5 else fX6_firstUnpicked_c3 S_rows N_posts n3 x1 x2 x3 x4 (x5 + 1)))))))
def fX6_firstUnpicked (S_rows : Nat → Nat → Int32) (N_posts : Int32) (p0 : Int32) (p1 : Int32) (p2 : Int32) (p3 : Int32) : Option (Int32) :=
  fX6_firstUnpicked_c3 S_rows N_posts FU p0 p1 p2 p3 1
def rmX6_firstUnpicked : Room := { frames := 2, cells := 0, slots := 0, locals := 45 }
-- X6_picks
def fX6_picks (B_latestFinding : Int32) (S_lanes : Nat → Int32) (S_sizes : Nat → Int32) (S_rows : Nat → Nat → Int32) (N_posts : Int32) (p0 : Int32) (p1 : Int32) (p2 : Int32) (p3 : Int32) (p4 : Int32) : Option (Int32 × Int32) :=
  bd1 (fX6_isSheet p0) (fun r1 => (if r1 = 0 then some ((-1000001), B_latestFinding) else (if p2 < 1 then some ((-1000001), B_latestFinding) else (if 40 < p2 then some ((-1000001), B_latestFinding) else (if p3 < 1 then some ((-1000001), B_latestFinding) else (if 4 < p3 then some ((-1000001), B_latestFinding) else (if p4 < 0 then some ((-1000001), B_latestFinding) else (if p4 ≤ 1 then bd1 (fX4_findPlaces S_lanes S_sizes p0 p1 p2) (fun r10 => (if r10 = 0 then bd1 (fX6_firstUnpicked S_rows N_posts p0 p1 p2 p3) (fun r13 => (if p4 = 1 then some (r13, r10) else (if r13 = (-1000000) then some (1, r10) else some (0, r10)))) else some ((-1000010 : Int32) - r10, r10))) else some ((-1000001), B_latestFinding)))))))))
def rmX6_picks : Room := { frames := 3, cells := 0, slots := 0, locals := 70 }
-- X6_kind
def fX6_kind (N_posts : Int32) (N_neighbours : Nat → Int32) (p0 : Int32) : Option (Int32) :=
  bd1 (fX1_hasPost N_posts p0) (fun r1 => (if r1 = 0 then some (-1000001) else bd1 (fX1_kindOf N_posts N_neighbours p0) (fun r4 => some r4)))
def rmX6_kind : Room := { frames := 4, cells := 0, slots := 0, locals := 85 }
-- X6_as
def fX6_as_c41 (N_posts : Int32) (N_neighbours : Nat → Int32) (B_latestFinding : Int32) (x1 : Int32) (t1 : Int32) : Option (Int32 × Int32) :=
  (if t1 = 0 then bd1 (fX1_degree N_neighbours x1) (fun r2 => some (r2, t1)) else some ((-1000010 : Int32) - t1, t1))
def fX6_as (B_latestFinding : Int32) (N_posts : Int32) (N_neighbours : Nat → Int32) (p0 : Int32) (p1 : Int32) : Option (Int32 × Int32) :=
  bd1 (fX1_hasPost N_posts p0) (fun r1 => (if r1 = 0 then some ((-1000001), B_latestFinding) else (if p1 < 0 then some ((-1000001), B_latestFinding) else (if p1 ≤ 4 then bd1 (fX1_isOfKind N_posts N_neighbours p0 p1) (fun r6 => (if r6 = 0 then fX6_as_c41 N_posts N_neighbours B_latestFinding p0 3 else fX6_as_c41 N_posts N_neighbours B_latestFinding p0 0)) else some ((-1000001), B_latestFinding)))))
def rmX6_as : Room := { frames := 5, cells := 0, slots := 0, locals := 108 }
-- X6_ask
def fX6_ask (N_posts : Int32) (N_neighbours : Nat → Int32) (K_length : Int32) (K_begun : Nat → Int32) (p0 : Int32) (p1 : Int32) : Option (Int32 × Int32 × (Nat → Int32)) :=
  bd1 (fX1_hasPost N_posts p0) (fun r1 => (if r1 = 0 then some ((-1000001), K_length, K_begun) else (if p1 < 0 then some ((-1000001), K_length, K_begun) else (if p1 ≤ 1 then bd3 (fX0_answer N_posts N_neighbours K_length K_begun p0 p1) (fun r6 K_length_7 K_begun_8 => some (r6, K_length_7, K_begun_8)) else some ((-1000001), K_length, K_begun)))))
def rmX6_ask : Room := { frames := 10, cells := 0, slots := 0, locals := 219 }
-- X6_trace
def fX6_trace (K_length : Int32) (K_begun : Nat → Int32) (p0 : Int32) : Option (Int32) :=
  bd1 (fX0_begunBody K_length K_begun p0) (fun r1 => some r1)
def rmX6_trace : Room := { frames := 1, cells := 0, slots := 0, locals := 21 }
-- X6_count
def fX6_count (S_lanes : Nat → Int32) (N_posts : Int32) (N_neighbours : Nat → Int32) (R_length : Int32) (T_size : Int32) (p0 : Int32) : Option (Int32) :=
  (if p0 = 0 then bd1 (fX4_size S_lanes) (fun r2 => some r2) else (if p0 = 1 then bd1 (fX1_size N_posts) (fun r5 => some r5) else (if p0 = 2 then bd1 (fX1_pairs N_posts N_neighbours) (fun r8 => some r8) else (if p0 = 3 then bd1 (fX5_size T_size) (fun r11 => some r11) else (if p0 = 4 then bd1 (fX1_countOf N_posts N_neighbours 2) (fun r14 => some r14) else (if p0 = 5 then bd1 (fX1_countOf N_posts N_neighbours 3) (fun r17 => some r17) else (if p0 = 6 then bd1 (fX1_countOf N_posts N_neighbours 4) (fun r20 => some r20) else (if p0 = 7 then bd1 (fX2_size R_length) (fun r23 => some r23) else some (-1000001)))))))))
def rmX6_count : Room := { frames := 5, cells := 0, slots := 0, locals := 108 }
-- X6_status
def fX6_status (B_latestFinding : Int32) : Option (Int32) :=
  some B_latestFinding
def rmX6_status : Room := { frames := 0, cells := 0, slots := 0, locals := 0 }
-- X7_in
def fX7_in (p0 : Int64) (p1 : Int64) (p2 : Int64) : Option (Int32) :=
  (if (lg_cmp p0 p1) < 0 then some 0 else (if 0 < (lg_cmp p0 p2) then some 0 else some 1))
def rmX7_in : Room := { frames := 0, cells := 0, slots := 0, locals := 0 }
-- X7_found
def fX7_found (M_status : Int32) (p0 : Int32) : Option (Int32 × Int32) :=
  some ((-1000010 : Int32) - p0, p0)
def rmX7_found : Room := { frames := 0, cells := 0, slots := 0, locals := 0 }
-- X7_isSheet
def fX7_isSheet (p0 : Int32) : Option (Int32) :=
  bd1 (fX7_in p0.toInt64 0 7) (fun r1 => zrx r1 (some r1))
def rmX7_isSheet : Room := { frames := 1, cells := 0, slots := 0, locals := 25 }
-- X7_sheet
def fX7_sheet_c65 : Nat → Int32 → Int32 → (Nat → Int32) → (Nat → Int32) → (Nat → Int32) → Int32 → Int32 → Int32 → Option (Int32 × Int32 × Int32 × (Nat → Int32) × (Nat → Int32) × (Nat → Int32))
  | 0, _, _, _, _, _, _, _, _ => none
  | n65 + 1, M_thrown, M_status, M_lane, M_many, M_item, x1, x3, x4 => (if 40 ≤ x4 then some (x3, M_thrown, M_status, M_lane, M_many, M_item) else sti 320 M_item (((40 : Int32) * x1) + x4) 0 (fun g2 => fX7_sheet_c65 n65 M_thrown M_status M_lane M_many g2 x1 x3 (x4 + 1)))
def fX7_sheet (M_thrown : Int32) (M_status : Int32) (M_lane : Nat → Int32) (M_many : Nat → Int32) (M_item : Nat → Int32) (p0 : Int32) (p1 : Int32) (p2 : Int32) : Option (Int32 × Int32 × Int32 × (Nat → Int32) × (Nat → Int32) × (Nat → Int32)) :=
  bd1 (fX7_isSheet p0) (fun r1 => (if r1 = 0 then some ((-1000001), 0, M_status, M_lane, M_many, M_item) else bd1 (fX7_in p1.toInt64 0 2) (fun r4 => (if r4 = 0 then some ((-1000001), 0, M_status, M_lane, M_many, M_item) else (if p2 ≤ 40 then (if 0 ≤ p2 then sti 8 M_lane p0 p1 (fun g9 => sti 8 M_many p0 p2 (fun g11 => fX7_sheet_c65 FU 0 0 g9 g11 M_item p0 p2 0)) else bd2 (fX7_found 0 4) (fun r13 M_status_14 => some (r13, 0, M_status_14, M_lane, M_many, M_item))) else some ((-1000001), 0, M_status, M_lane, M_many, M_item))))))
def rmX7_sheet : Room := { frames := 2, cells := 0, slots := 0, locals := 45 }
-- X7_set
def fX7_set_c99 (M_lane : Nat → Int32) (M_many : Nat → Int32) (M_thrown : Int32) (M_status : Int32) (M_item : Nat → Int32) (x1 : Int32) (x2 : Int32) (t1 : Int32) (t2 : Int32) : Option (Int32 × Int32 × Int32 × (Nat → Int32)) :=
  sti 320 M_item t1 t2 (fun g1 => ldx 320 g1 (((40 : Int32) * x1) + x2) (fun v3 => some (v3, M_thrown, M_status, g1)))
def fX7_set (M_thrown : Int32) (M_status : Int32) (M_lane : Nat → Int32) (M_many : Nat → Int32) (M_item : Nat → Int32) (p0 : Int32) (p1 : Int32) (p2 : Int32) : Option (Int32 × Int32 × Int32 × (Nat → Int32)) :=
  bd1 (fX7_isSheet p0) (fun r1 => (if r1 = 0 then some ((-1000001), 0, M_status, M_item) else ldx 8 M_lane p0 (fun v4 => (if 0 ≤ v4 then ldx 8 M_many p0 (fun v7 => bd1 (fX7_in p1.toInt64 0 ((v7 - (1 : Int32)).toInt64)) (fun r9 => (if r9 = 0 then bd2 (fX7_found 0 2) (fun r18 M_status_19 => some (r18, 0, M_status_19, M_item)) else ldx 8 M_lane p0 (fun v12 => (if v12 = 0 then fX7_set_c99 M_lane M_many 0 0 M_item p0 p1 (((40 : Int32) * p0) + p1) p2.toInt8.toInt32 else ldx 8 M_lane p0 (fun v15 => (if v15 = 1 then fX7_set_c99 M_lane M_many 0 0 M_item p0 p1 (((40 : Int32) * p0) + p1) p2.toInt16.toInt32 else fX7_set_c99 M_lane M_many 0 0 M_item p0 p1 (((40 : Int32) * p0) + p1) p2))))))) else bd2 (fX7_found 0 1) (fun r21 M_status_22 => some (r21, 0, M_status_22, M_item))))))
def rmX7_set : Room := { frames := 2, cells := 0, slots := 0, locals := 45 }
-- X7_copy
def fX7_copy_c167 (M_lane : Nat → Int32) (M_many : Nat → Int32) (k143 : Int32 → Int32 → (Nat → Int32) → Int32 → Int32 → Int32 → Int32 → Int32 → Int32 → Int32 → Option (Int32 × Int32 × Int32 × (Nat → Int32))) (M_thrown : Int32) (M_status : Int32) (M_item : Nat → Int32) (x1 : Int32) (x2 : Int32) (x3 : Int32) (x4 : Int32) (x5 : Int32) (x6 : Int32) (x7 : Int32) (t0 : Int32) : Option (Int32 × Int32 × Int32 × (Nat → Int32)) :=
  ldx 320 M_item ((((40 : Int32) * x1) + x2) + t0) (fun v1 => sti 320 M_item ((((40 : Int32) * x3) + x4) + t0) v1 (fun g3 => k143 M_thrown M_status g3 x1 x2 x3 x4 x5 x6 (x7 + 1)))
def fX7_copy_c143 (M_lane : Nat → Int32) (M_many : Nat → Int32) : Nat → Int32 → Int32 → (Nat → Int32) → Int32 → Int32 → Int32 → Int32 → Int32 → Int32 → Int32 → Option (Int32 × Int32 × Int32 × (Nat → Int32))
  | 0, _, _, _, _, _, _, _, _, _, _ => none
  | n143 + 1, M_thrown, M_status, M_item, x1, x2, x3, x4, x5, x6, x7 => (if x5 ≤ x7 then some (x5, M_thrown, M_status, M_item) else (if x6 = 0 then fX7_copy_c167 M_lane M_many (fX7_copy_c143 M_lane M_many n143) M_thrown M_status M_item x1 x2 x3 x4 x5 x6 x7 ((x5 - (1 : Int32)) - x7) else fX7_copy_c167 M_lane M_many (fX7_copy_c143 M_lane M_many n143) M_thrown M_status M_item x1 x2 x3 x4 x5 x6 x7 x7))
def fX7_copy (M_thrown : Int32) (M_status : Int32) (M_lane : Nat → Int32) (M_many : Nat → Int32) (M_item : Nat → Int32) (p0 : Int32) (p1 : Int32) (p2 : Int32) (p3 : Int32) (p4 : Int32) : Option (Int32 × Int32 × Int32 × (Nat → Int32)) :=
  bd1 (fX7_isSheet p0) (fun r1 => (if r1 = 0 then some ((-1000001), 0, M_status, M_item) else bd1 (fX7_isSheet p2) (fun r4 => (if r4 = 0 then some ((-1000001), 0, M_status, M_item) else ldx 8 M_lane p0 (fun v7 => (if v7 < 0 then bd2 (fX7_found 0 1) (fun r10 M_status_11 => some (r10, 0, M_status_11, M_item)) else ldx 8 M_lane p2 (fun v13 => (if 0 ≤ v13 then ldx 8 M_lane p0 (fun v16 => ldx 8 M_lane p2 (fun v18 => (if v16 = v18 then (if p1 < 0 then bd2 (fX7_found 0 2) (fun r22 M_status_23 => some (r22, 0, M_status_23, M_item)) else (if p3 < 0 then bd2 (fX7_found 0 2) (fun r26 M_status_27 => some (r26, 0, M_status_27, M_item)) else (if p4 < 0 then bd2 (fX7_found 0 2) (fun r30 M_status_31 => some (r30, 0, M_status_31, M_item)) else ldx 8 M_many p0 (fun v33 => (if 0 < (lg_cmp (p1.toInt64 + p4.toInt64) v33.toInt64) then bd2 (fX7_found 0 2) (fun r36 M_status_37 => some (r36, 0, M_status_37, M_item)) else ldx 8 M_many p2 (fun v39 => (if (lg_cmp (p3.toInt64 + p4.toInt64) v39.toInt64) ≤ 0 then (if p1 < p3 then fX7_copy_c143 M_lane M_many FU 0 0 M_item p0 p1 p2 p3 p4 0 0 else fX7_copy_c143 M_lane M_many FU 0 0 M_item p0 p1 p2 p3 p4 1 0) else bd2 (fX7_found 0 2) (fun r43 M_status_44 => some (r43, 0, M_status_44, M_item))))))))) else bd2 (fX7_found 0 5) (fun r46 M_status_47 => some (r46, 0, M_status_47, M_item))))) else bd2 (fX7_found 0 1) (fun r49 M_status_50 => some (r49, 0, M_status_50, M_item))))))))))
def rmX7_copy : Room := { frames := 2, cells := 0, slots := 0, locals := 45 }
-- X7_drop
def fX7_drop (M_thrown : Int32) (M_status : Int32) (M_lane : Nat → Int32) (M_many : Nat → Int32) (p0 : Int32) : Option (Int32 × Int32 × Int32 × (Nat → Int32)) :=
  bd1 (fX7_isSheet p0) (fun r1 => (if r1 = 0 then some ((-1000001), 0, M_status, M_lane) else ldx 8 M_lane p0 (fun v4 => (if 0 ≤ v4 then sti 8 M_lane p0 (-1) (fun g7 => ldx 8 M_many p0 (fun v9 => some (v9, 0, 0, g7))) else bd2 (fX7_found 0 1) (fun r11 M_status_12 => some (r11, 0, M_status_12, M_lane))))))
def rmX7_drop : Room := { frames := 2, cells := 0, slots := 0, locals := 45 }
-- X7_isPost
def fX7_isPost (M_posts : Int32) (p0 : Int32) : Option (Int32) :=
  bd1 (fX7_in p0.toInt64 0 ((M_posts - (1 : Int32)).toInt64)) (fun r1 => zrx r1 (some r1))
def rmX7_isPost : Room := { frames := 1, cells := 0, slots := 0, locals := 25 }
-- X7_size
def fX7_size_c4 : Nat → Int32 → Int32 → Int32 → Option (Int32)
  | 0, _, _, _ => none
  | n4 + 1, x0, x1, x2 => (if 8 ≤ x2 then some x1 else bnd (x1 + ((x0 >>> (x2 &&& 31)) &&& (1 : Int32))) (fun v2 => fX7_size_c4 n4 x0 v2 (x2 + 1)))
def fX7_size (p0 : Int32) : Option (Int32) :=
  fX7_size_c4 FU p0 0 0
def rmX7_size : Room := { frames := 0, cells := 0, slots := 0, locals := 0 }
-- X7_all
def fX7_all (M_posts : Int32) : Option (Int32) :=
  some (((1 : Int32) <<< (M_posts &&& 31)) - (1 : Int32))
def rmX7_all : Room := { frames := 0, cells := 0, slots := 0, locals := 0 }
-- X7_post
def fX7_post (M_thrown : Int32) (M_posts : Int32) : Option (Int32 × Int32 × Int32) :=
  (if M_posts = 8 then some ((-1000003), 0, M_posts) else some ((M_posts + (1 : Int32)) - (1 : Int32), 0, (M_posts + (1 : Int32))))
def rmX7_post : Room := { frames := 0, cells := 0, slots := 0, locals := 0 }
-- X7_join
def fX7_join_c48 (M_posts : Int32) (M_thrown : Int32) (M_beside : Nat → Int32) (x1 : Int32) (x2 : Int32) (t0 : Int32) : Option (Int32 × Int32 × (Nat → Int32)) :=
  ldx 8 M_beside x1 (fun v1 => sti 8 M_beside x1 (v1 ||| ((1 : Int32) <<< (x2 &&& 31))) (fun g3 => ldx 8 g3 x2 (fun v5 => sti 8 g3 x2 (v5 ||| ((1 : Int32) <<< (x1 &&& 31))) (fun g7 => (if t0 = 0 then some (1, M_thrown, g7) else some (0, M_thrown, g7))))))
def fX7_join (M_thrown : Int32) (M_posts : Int32) (M_beside : Nat → Int32) (p0 : Int32) (p1 : Int32) : Option (Int32 × Int32 × (Nat → Int32)) :=
  bd1 (fX7_isPost M_posts p0) (fun r1 => (if r1 = 0 then some ((-1000001), 0, M_beside) else bd1 (fX7_isPost M_posts p1) (fun r4 => (if r4 = 0 then some ((-1000001), 0, M_beside) else (if p0 = p1 then some ((-1000001), 0, M_beside) else ldx 8 M_beside p0 (fun v8 => (if ((v8 >>> (p1 &&& 31)) &&& (1 : Int32)) = 1 then fX7_join_c48 M_posts 0 M_beside p0 p1 1 else fX7_join_c48 M_posts 0 M_beside p0 p1 0)))))))
def rmX7_join : Room := { frames := 2, cells := 0, slots := 0, locals := 46 }
-- X7_part
def fX7_part_c48 (M_posts : Int32) (M_thrown : Int32) (M_beside : Nat → Int32) (x1 : Int32) (x2 : Int32) (t0 : Int32) : Option (Int32 × Int32 × (Nat → Int32)) :=
  ldx 8 M_beside x1 (fun v1 => sti 8 M_beside x1 (v1 &&& (((1 : Int32) <<< (x2 &&& 31)) ^^^ (-1 : Int32))) (fun g3 => ldx 8 g3 x2 (fun v5 => sti 8 g3 x2 (v5 &&& (((1 : Int32) <<< (x1 &&& 31)) ^^^ (-1 : Int32))) (fun g7 => (if t0 = 0 then some (0, M_thrown, g7) else some (1, M_thrown, g7))))))
def fX7_part (M_thrown : Int32) (M_posts : Int32) (M_beside : Nat → Int32) (p0 : Int32) (p1 : Int32) : Option (Int32 × Int32 × (Nat → Int32)) :=
  bd1 (fX7_isPost M_posts p0) (fun r1 => (if r1 = 0 then some ((-1000001), 0, M_beside) else bd1 (fX7_isPost M_posts p1) (fun r4 => (if r4 = 0 then some ((-1000001), 0, M_beside) else (if p0 = p1 then some ((-1000001), 0, M_beside) else ldx 8 M_beside p0 (fun v8 => (if ((v8 >>> (p1 &&& 31)) &&& (1 : Int32)) = 1 then fX7_part_c48 M_posts 0 M_beside p0 p1 1 else fX7_part_c48 M_posts 0 M_beside p0 p1 0)))))))
def rmX7_part : Room := { frames := 2, cells := 0, slots := 0, locals := 46 }
-- X7_around
def fX7_around_c4 (M_posts : Int32) (M_beside : Nat → Int32) : Nat → Int32 → Int32 → Int32 → Option (Int32)
  | 0, _, _, _ => none
  | n4 + 1, x1, x2, x3 => (if M_posts ≤ x3 then some x2 else (if ((x1 >>> (x3 &&& 31)) &&& (1 : Int32)) = 1 then ldx 8 M_beside x3 (fun v3 => fX7_around_c4 M_posts M_beside n4 x1 (x2 ||| v3) (x3 + 1)) else fX7_around_c4 M_posts M_beside n4 x1 (x2 ||| (0 : Int32)) (x3 + 1)))
def fX7_around (M_posts : Int32) (M_beside : Nat → Int32) (p0 : Int32) : Option (Int32) :=
  fX7_around_c4 M_posts M_beside FU p0 0 0
def rmX7_around : Room := { frames := 0, cells := 0, slots := 0, locals := 0 }
-- X7_reach
def fX7_reach_c4 (M_posts : Int32) (M_beside : Nat → Int32) : Nat → Int32 → Int32 → Option (Int32)
  | 0, _, _ => none
  | n4 + 1, x2, x3 => (if 8 ≤ x3 then some x2 else bd1 (fX7_around M_posts M_beside x2) (fun r2 => fX7_reach_c4 M_posts M_beside n4 (x2 ||| r2) (x3 + 1)))
def fX7_reach (M_posts : Int32) (M_beside : Nat → Int32) (p0 : Int32) : Option (Int32) :=
  fX7_reach_c4 M_posts M_beside FU p0 0
def rmX7_reach : Room := { frames := 1, cells := 0, slots := 0, locals := 23 }
-- X7_farOf
def fX7_farOf_c7 (M_posts : Int32) (M_beside : Nat → Int32) : Nat → Int32 → Int32 → Int32 → Option (Int32)
  | 0, _, _, _ => none
  | n7 + 1, x2, x3, x4 => (if 8 ≤ x4 then some (-1000000) else (if ((x3 >>> (x2 &&& 31)) &&& (1 : Int32)) = 1 then some x4 else bd1 (fX7_around M_posts M_beside x3) (fun r3 => fX7_farOf_c7 M_posts M_beside n7 x2 (x3 ||| r3) (x4 + 1))))
def fX7_farOf (M_posts : Int32) (M_beside : Nat → Int32) (p0 : Int32) (p1 : Int32) : Option (Int32) :=
  bnd ((1 : Int32) <<< (p0 &&& 31)) (fun v1 => fX7_farOf_c7 M_posts M_beside FU p1 v1 0)
def rmX7_farOf : Room := { frames := 1, cells := 0, slots := 0, locals := 23 }
-- X7_widthOf
def fX7_widthOf_c4 (M_posts : Int32) (M_beside : Nat → Int32) : Nat → Int32 → Int32 → Int32 → Option (Int32)
  | 0, _, _, _ => none
  | n4 + 1, x1, x2, x3 => (if M_posts ≤ x3 then some x2 else bd1 (fX7_farOf M_posts M_beside x1 x3) (fun r2 => (if r2 ≤ x2 then fX7_widthOf_c4 M_posts M_beside n4 x1 x2 (x3 + 1) else bd1 (fX7_farOf M_posts M_beside x1 x3) (fun r5 => fX7_widthOf_c4 M_posts M_beside n4 x1 r5 (x3 + 1)))))
def fX7_widthOf (M_posts : Int32) (M_beside : Nat → Int32) (p0 : Int32) : Option (Int32) :=
  fX7_widthOf_c4 M_posts M_beside FU p0 0 0
def rmX7_widthOf : Room := { frames := 2, cells := 0, slots := 0, locals := 47 }
-- X7_far
def fX7_far (M_thrown : Int32) (M_posts : Int32) (M_beside : Nat → Int32) (p0 : Int32) (p1 : Int32) : Option (Int32 × Int32) :=
  bd1 (fX7_isPost M_posts p0) (fun r1 => (if r1 = 0 then some ((-1000001), 0) else bd1 (fX7_isPost M_posts p1) (fun r4 => (if r4 = 0 then some ((-1000001), 0) else bd1 (fX7_farOf M_posts M_beside p0 p1) (fun r7 => some (r7, 0))))))
def rmX7_far : Room := { frames := 2, cells := 0, slots := 0, locals := 47 }
-- X7_told
def fX7_told (M_thrown : Int32) (M_posts : Int32) (M_beside : Nat → Int32) (p0 : Int32) (p1 : Int32) : Option (Int32 × Int32) :=
  bd1 (fX7_isPost M_posts p0) (fun r1 => (if r1 = 0 then some ((-1000001), 0) else bd1 (fX7_in p1.toInt64 0 3) (fun r4 => (if r4 = 0 then some ((-1000001), 0) else (if p1 = 0 then ldx 8 M_beside p0 (fun v16 => bd1 (fX7_size v16) (fun r18 => some (r18, 0))) else (if p1 = 1 then ldx 8 M_beside p0 (fun v14 => some (v14, 0)) else (if p1 = 2 then bd1 (fX7_widthOf M_posts M_beside p0) (fun r12 => some (r12, 0)) else bd1 (fX7_reach M_posts M_beside ((1 : Int32) <<< (p0 &&& 31))) (fun r10 => some (r10, 0)))))))))
def rmX7_told : Room := { frames := 3, cells := 0, slots := 0, locals := 70 }
-- X7_isHearing
def fX7_isHearing (p0 : Int32) : Option (Int32) :=
  bd1 (fX7_in p0.toInt64 0 1) (fun r1 => zrx r1 (some r1))
def rmX7_isHearing : Room := { frames := 1, cells := 0, slots := 0, locals := 25 }
-- X7_isSet
def fX7_isSet (M_posts : Int32) (p0 : Int32) : Option (Int32) :=
  bd1 (fX7_all M_posts) (fun r1 => bd1 (fX7_in p0.toInt64 0 r1.toInt64) (fun r3 => zrx r3 (some r3)))
def rmX7_isSet : Room := { frames := 1, cells := 0, slots := 0, locals := 25 }
-- X7_hearing
def fX7_hearing_c56 (M_posts : Int32) (M_beside : Nat → Int32) (k5 : Int32 → Int32 → Int32 → Int32 → Option (Int32)) (x1 : Int32) (x2 : Int32) (x4 : Int32) (t0 : Int32) : Option (Int32) :=
  bnd (t0 ||| ((1 : Int32) <<< (x4 &&& 31))) (fun v1 => k5 x1 x2 v1 (x4 + 1))
def fX7_hearing_c63 (M_posts : Int32) (M_beside : Nat → Int32) (k5 : Int32 → Int32 → Int32 → Int32 → Option (Int32)) (x1 : Int32) (x2 : Int32) (x4 : Int32) (t0 : Int32) : Option (Int32) :=
  k5 x1 x2 (t0 ||| (0 : Int32)) (x4 + 1)
def fX7_hearing_c5 (M_posts : Int32) (M_beside : Nat → Int32) : Nat → Int32 → Int32 → Int32 → Int32 → Option (Int32)
  | 0, _, _, _, _ => none
  | n5 + 1, x1, x2, x3, x4 => (if M_posts ≤ x4 then some x3 else ldx 8 M_beside x4 (fun v2 => bd1 (fX7_size (v2 &&& x2)) (fun r4 => (if ((x2 >>> (x4 &&& 31)) &&& (1 : Int32)) = 0 then (if x1 = 0 then (if r4 ≤ 0 then fX7_hearing_c63 M_posts M_beside (fX7_hearing_c5 M_posts M_beside n5) x1 x2 x4 x3 else fX7_hearing_c56 M_posts M_beside (fX7_hearing_c5 M_posts M_beside n5) x1 x2 x4 x3) else (if r4 = 1 then fX7_hearing_c56 M_posts M_beside (fX7_hearing_c5 M_posts M_beside n5) x1 x2 x4 x3 else fX7_hearing_c63 M_posts M_beside (fX7_hearing_c5 M_posts M_beside n5) x1 x2 x4 x3)) else fX7_hearing_c63 M_posts M_beside (fX7_hearing_c5 M_posts M_beside n5) x1 x2 x4 x3))))
def fX7_hearing (M_posts : Int32) (M_beside : Nat → Int32) (p0 : Int32) (p1 : Int32) : Option (Int32) :=
  fX7_hearing_c5 M_posts M_beside FU p0 p1 0 0
def rmX7_hearing : Room := { frames := 1, cells := 0, slots := 0, locals := 22 }
-- X7_spread
def fX7_spread (M_posts : Int32) (M_beside : Nat → Int32) (p0 : Int32) (p1 : Int32) (p2 : Int32) : Option (Int32) :=
  bd1 (fX7_hearing M_posts M_beside p0 (p1 &&& p2)) (fun r1 => some (p1 ||| r1))
def rmX7_spread : Room := { frames := 2, cells := 0, slots := 0, locals := 47 }
-- X7_hears
def fX7_hears (M_thrown : Int32) (M_posts : Int32) (M_beside : Nat → Int32) (p0 : Int32) (p1 : Int32) : Option (Int32 × Int32) :=
  bd1 (fX7_isHearing p0) (fun r1 => (if r1 = 0 then some ((-1000001), 0) else bd1 (fX7_isSet M_posts p1) (fun r4 => (if r4 = 0 then some ((-1000001), 0) else bd1 (fX7_hearing M_posts M_beside p0 p1) (fun r7 => some (r7, 0))))))
def rmX7_hears : Room := { frames := 2, cells := 0, slots := 0, locals := 47 }
-- X7_spreads
def fX7_spreads (M_thrown : Int32) (M_posts : Int32) (M_beside : Nat → Int32) (p0 : Int32) (p1 : Int32) (p2 : Int32) : Option (Int32 × Int32) :=
  bd1 (fX7_isHearing p0) (fun r1 => (if r1 = 0 then some ((-1000001), 0) else bd1 (fX7_isSet M_posts p1) (fun r4 => (if r4 = 0 then some ((-1000001), 0) else bd1 (fX7_isSet M_posts p2) (fun r7 => (if r7 = 0 then some ((-1000001), 0) else bd1 (fX7_spread M_posts M_beside p0 p1 p2) (fun r10 => some (r10, 0))))))))
def rmX7_spreads : Room := { frames := 3, cells := 0, slots := 0, locals := 70 }
-- X7_feed
def fX7_feed_c40 : Nat → Int32 → Int32 → (Nat → Int32) → Int64 → Int32 → Option (Int32 × Int32 × Int32 × (Nat → Int32))
  | 0, _, _, _, _, _ => none
  | n40 + 1, M_thrown, M_taped, M_tape, x1, x4 => (if x4 < 0 then some (M_taped, M_thrown, M_taped, M_tape) else sti 300 M_tape M_taped (((x1 >>> (((8 : Int32) * x4).toInt64 &&& 63)) &&& (255 : Int64)).toInt32) (fun g2 => fX7_feed_c40 n40 M_thrown (M_taped + (1 : Int32)) g2 x1 (x4 + (-1))))
def fX7_feed (M_thrown : Int32) (M_taped : Int32) (M_tape : Nat → Int32) (p0 : Int64) (p1 : Int32) : Option (Int32 × Int32 × Int32 × (Nat → Int32)) :=
  bd1 (fX7_in p1.toInt64 1 8) (fun r1 => (if r1 = 0 then some ((-1000001), 0, M_taped, M_tape) else (if (M_taped + p1) ≤ 300 then fX7_feed_c40 FU 0 M_taped M_tape p0 (p1 - (1 : Int32)) else some ((-1000003), 0, M_taped, M_tape))))
def rmX7_feed : Room := { frames := 1, cells := 0, slots := 0, locals := 25 }
-- X7_byteAt
def fX7_byteAt (M_length : Int32) (M_tape : Nat → Int32) (p0 : Int32) : Option (Int32) :=
  (if M_length ≤ p0 then some (-1000000) else ldx 300 M_tape p0 (fun v2 => some v2))
def rmX7_byteAt : Room := { frames := 0, cells := 0, slots := 0, locals := 0 }
-- X7_isLetter
def fX7_isLetter (p0 : Int32) : Option (Int32) :=
  (if p0 < 97 then some 0 else (if 122 < p0 then some 0 else some 1))
def rmX7_isLetter : Room := { frames := 0, cells := 0, slots := 0, locals := 0 }
-- X7_isFigure
def fX7_isFigure (p0 : Int32) : Option (Int32) :=
  (if p0 < 48 then some 0 else (if 57 < p0 then some 0 else some 1))
def rmX7_isFigure : Room := { frames := 0, cells := 0, slots := 0, locals := 0 }
-- X7_step
def fX7_step_c26 (M_length : Int32) (M_tape : Nat → Int32) (k0 : Int32 → Int32 → Int32 → Int32 → Option (Int32 × Int32 × Int32 × Int32)) (M_at : Int32) (M_sort : Int32) (M_from : Int32) (M_till : Int32) : Option (Int32 × Int32 × Int32 × Int32) :=
  k0 (M_at + (1 : Int32)) M_sort M_from M_till
def fX7_step_c214 (M_length : Int32) (M_tape : Nat → Int32) (M_at : Int32) (M_sort : Int32) (M_from : Int32) (M_till : Int32) : Option (Int32 × Int32 × Int32 × Int32) :=
  some (M_at, M_sort, M_from, M_at)
def fX7_step_c124 (M_length : Int32) (M_tape : Nat → Int32) (M_at : Int32) (M_sort : Int32) (M_from : Int32) (M_till : Int32) (t1 : Int32) : Option (Int32 × Int32 × Int32 × Int32) :=
  fX7_step_c214 M_length M_tape M_at t1 M_from M_till
def fX7_step_c77 (M_length : Int32) (M_tape : Nat → Int32) : Nat → Int32 → Int32 → Int32 → Int32 → Option (Int32 × Int32 × Int32 × Int32)
  | 0, _, _, _, _ => none
  | n77 + 1, M_at, M_sort, M_from, M_till => bd1 (fX7_byteAt M_length M_tape M_at) (fun r1 => bd1 (fX7_isLetter r1) (fun r3 => (if r3 = 0 then (if (M_at - M_from) ≤ 6 then fX7_step_c124 M_length M_tape M_at M_sort M_from M_till 2 else fX7_step_c124 M_length M_tape M_at M_sort M_from M_till 0) else fX7_step_c77 M_length M_tape n77 (M_at + (1 : Int32)) M_sort M_from M_till)))
def fX7_step_c183 (M_length : Int32) (M_tape : Nat → Int32) (M_at : Int32) (M_sort : Int32) (M_from : Int32) (M_till : Int32) (t1 : Int32) : Option (Int32 × Int32 × Int32 × Int32) :=
  fX7_step_c214 M_length M_tape M_at t1 M_from M_till
def fX7_step_c137 (M_length : Int32) (M_tape : Nat → Int32) : Nat → Int32 → Int32 → Int32 → Int32 → Option (Int32 × Int32 × Int32 × Int32)
  | 0, _, _, _, _ => none
  | n137 + 1, M_at, M_sort, M_from, M_till => bd1 (fX7_byteAt M_length M_tape M_at) (fun r1 => bd1 (fX7_isFigure r1) (fun r3 => (if r3 = 0 then (if (M_at - M_from) ≤ 2 then fX7_step_c183 M_length M_tape M_at M_sort M_from M_till 3 else fX7_step_c183 M_length M_tape M_at M_sort M_from M_till 0) else fX7_step_c137 M_length M_tape n137 (M_at + (1 : Int32)) M_sort M_from M_till)))
def fX7_step_c211 (M_length : Int32) (M_tape : Nat → Int32) (M_at : Int32) (M_sort : Int32) (M_from : Int32) (M_till : Int32) (t1 : Int32) : Option (Int32 × Int32 × Int32 × Int32) :=
  fX7_step_c214 M_length M_tape M_at t1 M_from M_till
def fX7_step_c0 (M_length : Int32) (M_tape : Nat → Int32) : Nat → Int32 → Int32 → Int32 → Int32 → Option (Int32 × Int32 × Int32 × Int32)
  | 0, _, _, _, _ => none
  | n0 + 1, M_at, M_sort, M_from, M_till => bd1 (fX7_byteAt M_length M_tape M_at) (fun r1 => (if r1 = 32 then fX7_step_c26 M_length M_tape (fX7_step_c0 M_length M_tape n0) M_at M_sort M_from M_till else bd1 (fX7_byteAt M_length M_tape M_at) (fun r4 => (if r4 = 10 then fX7_step_c26 M_length M_tape (fX7_step_c0 M_length M_tape n0) M_at M_sort M_from M_till else bd1 (fX7_byteAt M_length M_tape M_at) (fun r7 => (if r7 = (-1000000) then fX7_step_c214 M_length M_tape M_at 1 M_at M_till else bd1 (fX7_isLetter r7) (fun r10 => (if r10 = 0 then bd1 (fX7_isFigure r7) (fun r13 => (if r13 = 0 then (if r7 = 59 then fX7_step_c211 M_length M_tape (M_at + (1 : Int32)) M_sort M_at M_till 4 else fX7_step_c211 M_length M_tape (M_at + (1 : Int32)) M_sort M_at M_till 0) else fX7_step_c137 M_length M_tape FU M_at M_sort M_at M_till)) else fX7_step_c77 M_length M_tape FU M_at M_sort M_at M_till))))))))
def fX7_step (M_length : Int32) (M_at : Int32) (M_sort : Int32) (M_from : Int32) (M_till : Int32) (M_tape : Nat → Int32) : Option (Int32 × Int32 × Int32 × Int32) :=
  fX7_step_c0 M_length M_tape FU M_at M_sort M_from M_till
def rmX7_step : Room := { frames := 1, cells := 0, slots := 0, locals := 21 }
-- X7_bad
def fX7_bad (M_from : Int32) (M_fault : Int32) (M_faultAt : Int32) (p0 : Int32) : Option (Int32 × Int32) :=
  (if M_fault = 0 then some (p0, M_from) else some (M_fault, M_faultAt))
def rmX7_bad : Room := { frames := 0, cells := 0, slots := 0, locals := 0 }
-- X7_need
def fX7_need_c9 (M_length : Int32) (M_tape : Nat → Int32) (M_at : Int32) (M_sort : Int32) (M_from : Int32) (M_till : Int32) (M_fault : Int32) (M_faultAt : Int32) : Option (Int32 × Int32 × Int32 × Int32 × Int32 × Int32) :=
  (if M_fault = 0 then bd4 (fX7_step M_length M_at M_sort M_from M_till M_tape) (fun M_at_2 M_sort_3 M_from_4 M_till_5 => some (M_at_2, M_sort_3, M_from_4, M_till_5, M_fault, M_faultAt)) else some (M_at, M_sort, M_from, M_till, M_fault, M_faultAt))
def fX7_need (M_length : Int32) (M_at : Int32) (M_sort : Int32) (M_from : Int32) (M_till : Int32) (M_fault : Int32) (M_faultAt : Int32) (M_tape : Nat → Int32) (p0 : Int32) : Option (Int32 × Int32 × Int32 × Int32 × Int32 × Int32) :=
  (if p0 = 0 then bd2 (fX7_bad M_from M_fault M_faultAt 1) (fun M_fault_2 M_faultAt_3 => fX7_need_c9 M_length M_tape M_at M_sort M_from M_till M_fault_2 M_faultAt_3) else fX7_need_c9 M_length M_tape M_at M_sort M_from M_till M_fault M_faultAt)
def rmX7_need : Room := { frames := 2, cells := 0, slots := 0, locals := 42 }
-- X7_word
def fX7_word_c7 (M_sort : Int32) (M_from : Int32) (M_till : Int32) (M_tape : Nat → Int32) : Nat → Int64 → Int32 → Option (Int64)
  | 0, _, _ => none
  | n7 + 1, x1, x3 => (if M_till ≤ x3 then some x1 else (if M_sort = 2 then ldx 300 M_tape x3 (fun v3 => bnd ((x1 <<< ((8 : Int32).toInt64 &&& 63)) ||| v3.toInt64) (fun v5 => fX7_word_c7 M_sort M_from M_till M_tape n7 v5 (x3 + 1))) else some x1))
def fX7_word (M_sort : Int32) (M_from : Int32) (M_till : Int32) (M_tape : Nat → Int32) : Option (Int64) :=
  fX7_word_c7 M_sort M_from M_till M_tape FU 0 M_from
def rmX7_word : Room := { frames := 0, cells := 0, slots := 0, locals := 0 }
-- X7_readRound
def fX7_readRound_c207 (M_posts : Int32) (M_length : Int32) (M_tape : Nat → Int32) (k122 : Int32 → Int32 → Int32 → Int32 → Int32 → Int32 → Int32 → (Nat → Int32) → Int64 → Int32 → Option (Int32 × Int32 × Int32 × Int32 × Int32 × Int32 × Int32 × (Nat → Int32))) (M_read : Int32) (M_at : Int32) (M_sort : Int32) (M_from : Int32) (M_till : Int32) (M_fault : Int32) (M_faultAt : Int32) (M_reads : Nat → Int32) (x1 : Int64) (x4 : Int32) : Option (Int32 × Int32 × Int32 × Int32 × Int32 × Int32 × Int32 × (Nat → Int32)) :=
  bd2 (fX7_bad M_from M_fault M_faultAt 2) (fun M_fault_1 M_faultAt_2 => k122 M_read M_at M_sort M_from M_till M_fault_1 M_faultAt_2 M_reads x1 x4)
def fX7_readRound_c154 (M_posts : Int32) (M_length : Int32) (M_tape : Nat → Int32) (k122 : Int32 → Int32 → Int32 → Int32 → Int32 → Int32 → Int32 → (Nat → Int32) → Int64 → Int32 → Option (Int32 × Int32 × Int32 × Int32 × Int32 × Int32 × Int32 × (Nat → Int32))) : Nat → Int32 → Int32 → Int32 → Int32 → Int32 → Int32 → Int32 → (Nat → Int32) → Int64 → Int32 → Int32 → Int32 → Option (Int32 × Int32 × Int32 × Int32 × Int32 × Int32 × Int32 × (Nat → Int32))
  | 0, _, _, _, _, _, _, _, _, _, _, _, _ => none
  | n154 + 1, M_read, M_at, M_sort, M_from, M_till, M_fault, M_faultAt, M_reads, x1, x4, x5, x6 => (if M_till ≤ x6 then (if M_posts ≤ x5 then fX7_readRound_c207 M_posts M_length M_tape k122 M_read M_at M_sort M_from M_till M_fault M_faultAt M_reads x1 x4 else (if ((x4 >>> (x5 &&& 31)) &&& (1 : Int32)) = 1 then fX7_readRound_c207 M_posts M_length M_tape k122 M_read M_at M_sort M_from M_till M_fault M_faultAt M_reads x1 x4 else bnd (x4 ||| ((1 : Int32) <<< (x5 &&& 31))) (fun v4 => bd4 (fX7_step M_length M_at M_sort M_from M_till M_tape) (fun M_at_5 M_sort_6 M_from_7 M_till_8 => k122 M_read M_at_5 M_sort_6 M_from_7 M_till_8 M_fault M_faultAt M_reads x1 v4)))) else ldx 300 M_tape x6 (fun v10 => bnd ((((10 : Int32) * x5) + v10) - (48 : Int32)) (fun v12 => fX7_readRound_c154 M_posts M_length M_tape k122 n154 M_read M_at M_sort M_from M_till M_fault M_faultAt M_reads x1 x4 v12 (x6 + 1))))
def fX7_readRound_c255 (M_posts : Int32) (M_length : Int32) (M_tape : Nat → Int32) (M_read : Int32) (M_at : Int32) (M_sort : Int32) (M_from : Int32) (M_till : Int32) (M_fault : Int32) (M_faultAt : Int32) (M_reads : Nat → Int32) (x4 : Int32) : Option (Int32 × Int32 × Int32 × Int32 × Int32 × Int32 × Int32 × (Nat → Int32)) :=
  (if M_fault = 0 then sti 20 M_reads M_read x4 (fun g2 => some ((M_read + (1 : Int32)), M_at, M_sort, M_from, M_till, M_fault, M_faultAt, g2)) else some (M_read, M_at, M_sort, M_from, M_till, M_fault, M_faultAt, M_reads))
def fX7_readRound_c252 (M_posts : Int32) (M_length : Int32) (M_tape : Nat → Int32) (M_read : Int32) (M_at : Int32) (M_sort : Int32) (M_from : Int32) (M_till : Int32) (M_fault : Int32) (M_faultAt : Int32) (M_reads : Nat → Int32) (x4 : Int32) (t1 : Int32) : Option (Int32 × Int32 × Int32 × Int32 × Int32 × Int32 × Int32 × (Nat → Int32)) :=
  bd6 (fX7_need M_length M_at M_sort M_from M_till M_fault M_faultAt M_tape t1) (fun M_at_1 M_sort_2 M_from_3 M_till_4 M_fault_5 M_faultAt_6 => fX7_readRound_c255 M_posts M_length M_tape M_read M_at_1 M_sort_2 M_from_3 M_till_4 M_fault_5 M_faultAt_6 M_reads x4)
def fX7_readRound_c231 (M_posts : Int32) (M_length : Int32) (M_tape : Nat → Int32) (M_read : Int32) (M_at : Int32) (M_sort : Int32) (M_from : Int32) (M_till : Int32) (M_fault : Int32) (M_faultAt : Int32) (M_reads : Nat → Int32) (x4 : Int32) : Option (Int32 × Int32 × Int32 × Int32 × Int32 × Int32 × Int32 × (Nat → Int32)) :=
  (if M_fault = 0 then (if M_sort = 4 then fX7_readRound_c252 M_posts M_length M_tape M_read M_at M_sort M_from M_till M_fault M_faultAt M_reads x4 1 else fX7_readRound_c252 M_posts M_length M_tape M_read M_at M_sort M_from M_till M_fault M_faultAt M_reads x4 0) else fX7_readRound_c255 M_posts M_length M_tape M_read M_at M_sort M_from M_till M_fault M_faultAt M_reads x4)
def fX7_readRound_c122 (M_posts : Int32) (M_length : Int32) (M_tape : Nat → Int32) : Nat → Int32 → Int32 → Int32 → Int32 → Int32 → Int32 → Int32 → (Nat → Int32) → Int64 → Int32 → Option (Int32 × Int32 × Int32 × Int32 × Int32 × Int32 × Int32 × (Nat → Int32))
  | 0, _, _, _, _, _, _, _, _, _, _ => none
  | n122 + 1, M_read, M_at, M_sort, M_from, M_till, M_fault, M_faultAt, M_reads, x1, x4 => (if M_fault = 0 then (if (lg_cmp x1 491496238692) = 0 then (if M_sort = 3 then fX7_readRound_c154 M_posts M_length M_tape (fX7_readRound_c122 M_posts M_length M_tape n122) FU M_read M_at M_sort M_from M_till M_fault M_faultAt M_reads x1 x4 0 M_from else fX7_readRound_c231 M_posts M_length M_tape M_read M_at M_sort M_from M_till M_fault M_faultAt M_reads x4) else fX7_readRound_c231 M_posts M_length M_tape M_read M_at M_sort M_from M_till M_fault M_faultAt M_reads x4) else fX7_readRound_c231 M_posts M_length M_tape M_read M_at M_sort M_from M_till M_fault M_faultAt M_reads x4)
def fX7_readRound_c73 (M_posts : Int32) (M_length : Int32) (M_tape : Nat → Int32) (M_read : Int32) (M_at : Int32) (M_sort : Int32) (M_from : Int32) (M_till : Int32) (M_fault : Int32) (M_faultAt : Int32) (M_reads : Nat → Int32) (x1 : Int64) (x3 : Int32) : Option (Int32 × Int32 × Int32 × Int32 × Int32 × Int32 × Int32 × (Nat → Int32)) :=
  bd6 (fX7_need M_length M_at M_sort M_from M_till M_fault M_faultAt M_tape x3) (fun M_at_1 M_sort_2 M_from_3 M_till_4 M_fault_5 M_faultAt_6 => (if (lg_cmp x1 6384748) = 0 then fX7_readRound_c122 M_posts M_length M_tape FU M_read M_at_1 M_sort_2 M_from_3 M_till_4 M_fault_5 M_faultAt_6 M_reads x1 (-1) else (if (lg_cmp x1 500219601765) = 0 then (if M_read ≤ 0 then fX7_readRound_c122 M_posts M_length M_tape FU M_read M_at_1 M_sort_2 M_from_3 M_till_4 M_fault_5 M_faultAt_6 M_reads x1 0 else ldx 20 M_reads (M_read - (1 : Int32)) (fun v11 => fX7_readRound_c122 M_posts M_length M_tape FU M_read M_at_1 M_sort_2 M_from_3 M_till_4 M_fault_5 M_faultAt_6 M_reads x1 v11)) else fX7_readRound_c122 M_posts M_length M_tape FU M_read M_at_1 M_sort_2 M_from_3 M_till_4 M_fault_5 M_faultAt_6 M_reads x1 0)))
def fX7_readRound_c55 (M_posts : Int32) (M_length : Int32) (M_tape : Nat → Int32) (M_read : Int32) (M_at : Int32) (M_sort : Int32) (M_from : Int32) (M_till : Int32) (M_fault : Int32) (M_faultAt : Int32) (M_reads : Nat → Int32) (x1 : Int64) (x3 : Int32) : Option (Int32 × Int32 × Int32 × Int32 × Int32 × Int32 × Int32 × (Nat → Int32)) :=
  (if x3 = 0 then fX7_readRound_c73 M_posts M_length M_tape M_read M_at M_sort M_from M_till M_fault M_faultAt M_reads x1 x3 else (if M_read = 20 then bd2 (fX7_bad M_from M_fault M_faultAt 3) (fun M_fault_3 M_faultAt_4 => fX7_readRound_c73 M_posts M_length M_tape M_read M_at M_sort M_from M_till M_fault_3 M_faultAt_4 M_reads x1 x3) else fX7_readRound_c73 M_posts M_length M_tape M_read M_at M_sort M_from M_till M_fault M_faultAt M_reads x1 x3))
def fX7_readRound_c34 (M_posts : Int32) (M_length : Int32) (M_tape : Nat → Int32) (M_read : Int32) (M_at : Int32) (M_sort : Int32) (M_from : Int32) (M_till : Int32) (M_fault : Int32) (M_faultAt : Int32) (M_reads : Nat → Int32) (x1 : Int64) (t0 : Int32) : Option (Int32 × Int32 × Int32 × Int32 × Int32 × Int32 × Int32 × (Nat → Int32)) :=
  (if (lg_cmp x1 500219601765) = 0 then (if M_read = 0 then bd2 (fX7_bad M_from M_fault M_faultAt 2) (fun M_fault_3 M_faultAt_4 => fX7_readRound_c55 M_posts M_length M_tape M_read M_at M_sort M_from M_till M_fault_3 M_faultAt_4 M_reads x1 t0) else fX7_readRound_c55 M_posts M_length M_tape M_read M_at M_sort M_from M_till M_fault M_faultAt M_reads x1 t0) else fX7_readRound_c55 M_posts M_length M_tape M_read M_at M_sort M_from M_till M_fault M_faultAt M_reads x1 t0)
def fX7_readRound_c29 (M_posts : Int32) (M_length : Int32) (M_tape : Nat → Int32) (M_read : Int32) (M_at : Int32) (M_sort : Int32) (M_from : Int32) (M_till : Int32) (M_fault : Int32) (M_faultAt : Int32) (M_reads : Nat → Int32) (x1 : Int64) : Option (Int32 × Int32 × Int32 × Int32 × Int32 × Int32 × Int32 × (Nat → Int32)) :=
  fX7_readRound_c34 M_posts M_length M_tape M_read M_at M_sort M_from M_till M_fault M_faultAt M_reads x1 1
def fX7_readRound (M_posts : Int32) (M_read : Int32) (M_length : Int32) (M_at : Int32) (M_sort : Int32) (M_from : Int32) (M_till : Int32) (M_fault : Int32) (M_faultAt : Int32) (M_reads : Nat → Int32) (M_tape : Nat → Int32) : Option (Int32 × Int32 × Int32 × Int32 × Int32 × Int32 × Int32 × (Nat → Int32)) :=
  bd1 (fX7_word M_sort M_from M_till M_tape) (fun r1 => (if (lg_cmp r1 491496238692) = 0 then fX7_readRound_c29 M_posts M_length M_tape M_read M_at M_sort M_from M_till M_fault M_faultAt M_reads r1 else (if (lg_cmp r1 6384748) = 0 then fX7_readRound_c29 M_posts M_length M_tape M_read M_at M_sort M_from M_till M_fault M_faultAt M_reads r1 else (if (lg_cmp r1 500219601765) = 0 then fX7_readRound_c29 M_posts M_length M_tape M_read M_at M_sort M_from M_till M_fault M_faultAt M_reads r1 else fX7_readRound_c34 M_posts M_length M_tape M_read M_at M_sort M_from M_till M_fault M_faultAt M_reads r1 0))))
def rmX7_readRound : Room := { frames := 3, cells := 0, slots := 0, locals := 63 }
-- X7_schedule
def fX7_schedule_c92 (M_posts : Int32) (M_tape : Nat → Int32) : Nat → Int32 → Int32 → Int32 → Int32 → Int32 → Int32 → Int32 → Int32 → Int32 → Int32 → Int32 → Int32 → (Nat → Int32) → (Nat → Int32) → Int32 → Option (Int32 × Int32 × Int32 × Int32 × Int32 × Int32 × Int32 × Int32 × Int32 × Int32 × Int32 × Int32 × Int32 × (Nat → Int32) × (Nat → Int32))
  | 0, _, _, _, _, _, _, _, _, _, _, _, _, _, _, _ => none
  | n92 + 1, M_thrown, M_rounds, M_read, M_taped, M_latest, M_length, M_at, M_sort, M_from, M_till, M_fault, M_faultAt, M_round, M_reads, x1 => (if M_read ≤ x1 then some (M_rounds, M_thrown, M_rounds, M_read, M_taped, M_latest, M_length, M_at, M_sort, M_from, M_till, M_fault, M_faultAt, M_round, M_reads) else ldx 20 M_reads x1 (fun v2 => sti 20 M_round x1 v2 (fun g4 => fX7_schedule_c92 M_posts M_tape n92 M_thrown M_rounds M_read M_taped M_latest M_length M_at M_sort M_from M_till M_fault M_faultAt g4 M_reads (x1 + 1))))
def fX7_schedule_c59 (M_posts : Int32) (M_tape : Nat → Int32) (M_thrown : Int32) (M_rounds : Int32) (M_read : Int32) (M_taped : Int32) (M_latest : Int32) (M_length : Int32) (M_at : Int32) (M_sort : Int32) (M_from : Int32) (M_till : Int32) (M_fault : Int32) (M_faultAt : Int32) (M_round : Nat → Int32) (M_reads : Nat → Int32) : Option (Int32 × Int32 × Int32 × Int32 × Int32 × Int32 × Int32 × Int32 × Int32 × Int32 × Int32 × Int32 × Int32 × (Nat → Int32) × (Nat → Int32)) :=
  (if M_fault ≤ 0 then fX7_schedule_c92 M_posts M_tape FU M_thrown M_read M_read M_taped M_latest M_length M_at M_sort M_from M_till M_fault M_faultAt M_round M_reads 0 else some ((-1000100 : Int32) - M_faultAt, M_thrown, M_rounds, M_read, M_taped, M_fault, M_length, M_at, M_sort, M_from, M_till, M_fault, M_faultAt, M_round, M_reads))
def fX7_schedule_c37 (M_posts : Int32) (M_tape : Nat → Int32) : Nat → Int32 → Int32 → Int32 → Int32 → Int32 → Int32 → Int32 → Int32 → Int32 → Int32 → Int32 → Int32 → (Nat → Int32) → (Nat → Int32) → Option (Int32 × Int32 × Int32 × Int32 × Int32 × Int32 × Int32 × Int32 × Int32 × Int32 × Int32 × Int32 × Int32 × (Nat → Int32) × (Nat → Int32))
  | 0, _, _, _, _, _, _, _, _, _, _, _, _, _, _ => none
  | n37 + 1, M_thrown, M_rounds, M_read, M_taped, M_latest, M_length, M_at, M_sort, M_from, M_till, M_fault, M_faultAt, M_round, M_reads => (if M_fault = 0 then (if M_sort = 1 then fX7_schedule_c59 M_posts M_tape M_thrown M_rounds M_read M_taped M_latest M_length M_at M_sort M_from M_till M_fault M_faultAt M_round M_reads else bd8 (fX7_readRound M_posts M_read M_length M_at M_sort M_from M_till M_fault M_faultAt M_reads M_tape) (fun M_read_3 M_at_4 M_sort_5 M_from_6 M_till_7 M_fault_8 M_faultAt_9 M_reads_10 => fX7_schedule_c37 M_posts M_tape n37 M_thrown M_rounds M_read_3 M_taped M_latest M_length M_at_4 M_sort_5 M_from_6 M_till_7 M_fault_8 M_faultAt_9 M_round M_reads_10)) else fX7_schedule_c59 M_posts M_tape M_thrown M_rounds M_read M_taped M_latest M_length M_at M_sort M_from M_till M_fault M_faultAt M_round M_reads)
def fX7_schedule (M_thrown : Int32) (M_posts : Int32) (M_rounds : Int32) (M_read : Int32) (M_taped : Int32) (M_latest : Int32) (M_length : Int32) (M_at : Int32) (M_sort : Int32) (M_from : Int32) (M_till : Int32) (M_fault : Int32) (M_faultAt : Int32) (M_round : Nat → Int32) (M_reads : Nat → Int32) (M_tape : Nat → Int32) : Option (Int32 × Int32 × Int32 × Int32 × Int32 × Int32 × Int32 × Int32 × Int32 × Int32 × Int32 × Int32 × Int32 × (Nat → Int32) × (Nat → Int32)) :=
  bd4 (fX7_step M_taped 0 M_sort M_from M_till M_tape) (fun M_at_1 M_sort_2 M_from_3 M_till_4 => fX7_schedule_c37 M_posts M_tape FU 0 M_rounds 0 0 M_latest M_taped M_at_1 M_sort_2 M_from_3 M_till_4 0 M_faultAt M_round M_reads)
def rmX7_schedule : Room := { frames := 4, cells := 0, slots := 0, locals := 89 }
-- X7_fault
def fX7_fault (M_thrown : Int32) (M_latest : Int32) : Option (Int32 × Int32) :=
  some (M_latest, 0)
def rmX7_fault : Room := { frames := 0, cells := 0, slots := 0, locals := 0 }
-- X7_soundsIn
def fX7_soundsIn (M_posts : Int32) (M_rounds : Int32) (M_round : Nat → Int32) (p0 : Int32) : Option (Int32) :=
  nzx M_rounds (ldx 20 M_round (p0 - p0 / M_rounds * M_rounds) (fun v2 => (if v2 = (-1) then bd1 (fX7_all M_posts) (fun r8 => some r8) else nzx M_rounds (ldx 20 M_round (p0 - p0 / M_rounds * M_rounds) (fun v6 => some v6)))))
def rmX7_soundsIn : Room := { frames := 1, cells := 0, slots := 0, locals := 20 }
-- X7_round
def fX7_round (M_thrown : Int32) (M_posts : Int32) (M_rounds : Int32) (M_round : Nat → Int32) (p0 : Int32) : Option (Int32 × Int32) :=
  bd1 (fX7_in p0.toInt64 0 ((M_rounds - (1 : Int32)).toInt64)) (fun r1 => (if r1 = 0 then some ((-1000000), 0) else bd1 (fX7_soundsIn M_posts M_rounds M_round p0) (fun r4 => some (r4, 0))))
def rmX7_round : Room := { frames := 2, cells := 0, slots := 0, locals := 41 }
-- X7_run
def fX7_run_c53 (M_posts : Int32) (M_rounds : Int32) (M_beside : Nat → Int32) (M_round : Nat → Int32) : Nat → Int32 → Int32 → Int32 → Int32 → Int32 → Option (Int32 × Int32)
  | 0, _, _, _, _, _ => none
  | n53 + 1, M_thrown, x1, x3, x4, x5 => (if x3 ≤ x5 then some (x4, M_thrown) else bd1 (fX7_soundsIn M_posts M_rounds M_round x5) (fun r2 => bd1 (fX7_spread M_posts M_beside x1 x4 r2) (fun r4 => fX7_run_c53 M_posts M_rounds M_beside M_round n53 M_thrown x1 x3 r4 (x5 + 1))))
def fX7_run (M_thrown : Int32) (M_posts : Int32) (M_rounds : Int32) (M_beside : Nat → Int32) (M_round : Nat → Int32) (p0 : Int32) (p1 : Int32) (p2 : Int32) : Option (Int32 × Int32) :=
  bd1 (fX7_isHearing p0) (fun r1 => (if r1 = 0 then some ((-1000001), 0) else bd1 (fX7_isPost M_posts p1) (fun r4 => (if r4 = 0 then some ((-1000001), 0) else bd1 (fX7_in p2.toInt64 0 60) (fun r7 => (if r7 = 0 then some ((-1000001), 0) else (if M_rounds = 0 then some ((-1000002), 0) else bnd ((1 : Int32) <<< (p1 &&& 31)) (fun v11 => fX7_run_c53 M_posts M_rounds M_beside M_round FU 0 p0 p2 v11 0))))))))
def rmX7_run : Room := { frames := 3, cells := 0, slots := 0, locals := 70 }
-- X7_findFewest
def fX7_findFewest_c119 (M_posts : Int32) (M_beside : Nat → Int32) (k34 : (Nat → Int32) → Int32 → Int32 → Int32 → Option ((Nat → Int32))) (k43 : (Nat → Int32) → Int32 → Int32 → Int32 → Int32 → Option ((Nat → Int32))) (k55 : (Nat → Int32) → Int32 → Int32 → Int32 → Int32 → Int32 → Option ((Nat → Int32))) (M_fewest : Nat → Int32) (x1 : Int32) (x2 : Int32) (x4 : Int32) (x5 : Int32) (x6 : Int32) : Option ((Nat → Int32)) :=
  sti 256 M_fewest x4 (x6 + (1 : Int32)) (fun g1 => k55 g1 x1 x2 1 x4 (x5 + 1))
def fX7_findFewest_c55 (M_posts : Int32) (M_beside : Nat → Int32) (k34 : (Nat → Int32) → Int32 → Int32 → Int32 → Option ((Nat → Int32))) (k43 : (Nat → Int32) → Int32 → Int32 → Int32 → Int32 → Option ((Nat → Int32))) : Nat → (Nat → Int32) → Int32 → Int32 → Int32 → Int32 → Int32 → Option ((Nat → Int32))
  | 0, _, _, _, _, _, _ => none
  | n55 + 1, M_fewest, x1, x2, x3, x4, x5 => bd1 (fX7_all M_posts) (fun r1 => (if r1 < x5 then k43 M_fewest x1 x2 x3 (x4 + 1) else (if x4 = x2 then k43 M_fewest x1 x2 x3 (x4 + 1) else bd1 (fX7_spread M_posts M_beside x1 x4 x5) (fun r5 => ldx 256 M_fewest r5 (fun v7 => (if v7 = (-1000000) then fX7_findFewest_c55 M_posts M_beside k34 k43 n55 M_fewest x1 x2 x3 x4 (x5 + 1) else ldx 256 M_fewest x4 (fun v10 => (if v10 = (-1000000) then fX7_findFewest_c119 M_posts M_beside k34 k43 (fX7_findFewest_c55 M_posts M_beside k34 k43 n55) M_fewest x1 x2 x4 x5 v7 else ldx 256 M_fewest x4 (fun v13 => (if v13 ≤ (v7 + (1 : Int32)) then fX7_findFewest_c55 M_posts M_beside k34 k43 n55 M_fewest x1 x2 x3 x4 (x5 + 1) else fX7_findFewest_c119 M_posts M_beside k34 k43 (fX7_findFewest_c55 M_posts M_beside k34 k43 n55) M_fewest x1 x2 x4 x5 v7))))))))))
def fX7_findFewest_c43 (M_posts : Int32) (M_beside : Nat → Int32) (k34 : (Nat → Int32) → Int32 → Int32 → Int32 → Option ((Nat → Int32))) : Nat → (Nat → Int32) → Int32 → Int32 → Int32 → Int32 → Option ((Nat → Int32))
  | 0, _, _, _, _, _ => none
  | n43 + 1, M_fewest, x1, x2, x3, x4 => bd1 (fX7_all M_posts) (fun r1 => (if r1 < x4 then k34 M_fewest x1 x2 x3 else fX7_findFewest_c55 M_posts M_beside k34 (fX7_findFewest_c43 M_posts M_beside k34 n43) FU M_fewest x1 x2 x3 x4 0))
def fX7_findFewest_c34 (M_posts : Int32) (M_beside : Nat → Int32) : Nat → (Nat → Int32) → Int32 → Int32 → Int32 → Option ((Nat → Int32))
  | 0, _, _, _, _ => none
  | n34 + 1, M_fewest, x1, x2, x3 => (if x3 = 0 then some M_fewest else fX7_findFewest_c43 M_posts M_beside (fX7_findFewest_c34 M_posts M_beside n34) FU M_fewest x1 x2 0 0)
def fX7_findFewest_c2 (M_posts : Int32) (M_beside : Nat → Int32) : Nat → (Nat → Int32) → Int32 → Int32 → Int32 → Option ((Nat → Int32))
  | 0, _, _, _, _ => none
  | n2 + 1, M_fewest, x1, x2, x3 => (if 256 ≤ x3 then fX7_findFewest_c34 M_posts M_beside FU M_fewest x1 x2 1 else (if x3 = x2 then sti 256 M_fewest x3 0 (fun g5 => fX7_findFewest_c2 M_posts M_beside n2 g5 x1 x2 (x3 + 1)) else sti 256 M_fewest x3 (-1000000) (fun g3 => fX7_findFewest_c2 M_posts M_beside n2 g3 x1 x2 (x3 + 1))))
def fX7_findFewest (M_posts : Int32) (M_beside : Nat → Int32) (M_fewest : Nat → Int32) (p0 : Int32) (p1 : Int32) : Option ((Nat → Int32)) :=
  fX7_findFewest_c2 M_posts M_beside FU M_fewest p0 p1 0
def rmX7_findFewest : Room := { frames := 3, cells := 0, slots := 0, locals := 70 }
-- X7_least
def fX7_least_c60 (M_posts : Int32) (M_beside : Nat → Int32) (M_thrown : Int32) (M_fewest : Nat → Int32) (x2 : Int32) (x3 : Int32) : Option (Int32 × Int32 × (Nat → Int32)) :=
  (if x3 = 0 then ldx 256 M_fewest x2 (fun v2 => some (v2, M_thrown, M_fewest)) else some (0, M_thrown, M_fewest))
def fX7_least_c78 (M_posts : Int32) (M_beside : Nat → Int32) : Nat → Int32 → (Nat → Int32) → Int32 → Int32 → Int32 → Option (Int32 × Int32 × (Nat → Int32))
  | 0, _, _, _, _, _ => none
  | n78 + 1, M_thrown, M_fewest, x1, x2, x4 => bd1 (fX7_spread M_posts M_beside x1 x2 x4) (fun r1 => ldx 256 M_fewest r1 (fun v3 => ldx 256 M_fewest x2 (fun v5 => (if v3 = (v5 - (1 : Int32)) then some (x4, M_thrown, M_fewest) else fX7_least_c78 M_posts M_beside n78 M_thrown M_fewest x1 x2 (x4 + 1)))))
def fX7_least (M_thrown : Int32) (M_posts : Int32) (M_beside : Nat → Int32) (M_fewest : Nat → Int32) (p0 : Int32) (p1 : Int32) (p2 : Int32) : Option (Int32 × Int32 × (Nat → Int32)) :=
  bd1 (fX7_isHearing p0) (fun r1 => (if r1 = 0 then some ((-1000001), 0, M_fewest) else bd1 (fX7_isSet M_posts p1) (fun r4 => (if r4 = 0 then some ((-1000001), 0, M_fewest) else (if p1 = 0 then some ((-1000001), 0, M_fewest) else bd1 (fX7_in p2.toInt64 0 1) (fun r8 => (if r8 = 0 then some ((-1000001), 0, M_fewest) else bd1 (fX7_reach M_posts M_beside p1) (fun r11 => bd1 (fX7_findFewest M_posts M_beside M_fewest p0 r11) (fun M_fewest_13 => (if p2 = 0 then fX7_least_c60 M_posts M_beside 0 M_fewest_13 p1 p2 else ldx 256 M_fewest_13 p1 (fun v16 => (if v16 = 0 then fX7_least_c60 M_posts M_beside 0 M_fewest_13 p1 p2 else fX7_least_c78 M_posts M_beside FU 0 M_fewest_13 p0 p1 0))))))))))))
def rmX7_least : Room := { frames := 4, cells := 0, slots := 0, locals := 96 }
-- X7_jammed
def fX7_jammed_c146 (M_posts : Int32) (M_rounds : Int32) (M_beside : Nat → Int32) (M_round : Nat → Int32) (k94 : Int32 → (Nat → Int32) → (Nat → Int32) → Int32 → Int32 → Int32 → Int32 → Option (Int32 × Int32 × (Nat → Int32) × (Nat → Int32))) (k107 : Int32 → (Nat → Int32) → (Nat → Int32) → Int32 → Int32 → Int32 → Int32 → Int32 → Int32 → Option (Int32 × Int32 × (Nat → Int32) × (Nat → Int32))) (M_thrown : Int32) (M_may : Nat → Int32) (M_then : Nat → Int32) (x1 : Int32) (x3 : Int32) (x4 : Int32) (x5 : Int32) (x7 : Int32) (t0 : Int32) : Option (Int32 × Int32 × (Nat → Int32) × (Nat → Int32)) :=
  sti 1536 M_then x7 (vp_nar .boolean 0) (fun g1 => k107 M_thrown M_may g1 x1 x3 x4 x5 t0 (x7 + 1))
def fX7_jammed_c141 (M_posts : Int32) (M_rounds : Int32) (M_beside : Nat → Int32) (M_round : Nat → Int32) (k94 : Int32 → (Nat → Int32) → (Nat → Int32) → Int32 → Int32 → Int32 → Int32 → Option (Int32 × Int32 × (Nat → Int32) × (Nat → Int32))) (k107 : Int32 → (Nat → Int32) → (Nat → Int32) → Int32 → Int32 → Int32 → Int32 → Int32 → Int32 → Option (Int32 × Int32 × (Nat → Int32) × (Nat → Int32))) (M_thrown : Int32) (M_may : Nat → Int32) (M_then : Nat → Int32) (x1 : Int32) (x3 : Int32) (x4 : Int32) (x5 : Int32) (x7 : Int32) : Option (Int32 × Int32 × (Nat → Int32) × (Nat → Int32)) :=
  fX7_jammed_c146 M_posts M_rounds M_beside M_round k94 k107 M_thrown M_may M_then x1 x3 x4 x5 x7 1
def fX7_jammed_c145 (M_posts : Int32) (M_rounds : Int32) (M_beside : Nat → Int32) (M_round : Nat → Int32) (k94 : Int32 → (Nat → Int32) → (Nat → Int32) → Int32 → Int32 → Int32 → Int32 → Option (Int32 × Int32 × (Nat → Int32) × (Nat → Int32))) (k107 : Int32 → (Nat → Int32) → (Nat → Int32) → Int32 → Int32 → Int32 → Int32 → Int32 → Int32 → Option (Int32 × Int32 × (Nat → Int32) × (Nat → Int32))) (M_thrown : Int32) (M_may : Nat → Int32) (M_then : Nat → Int32) (x1 : Int32) (x3 : Int32) (x4 : Int32) (x5 : Int32) (x7 : Int32) : Option (Int32 × Int32 × (Nat → Int32) × (Nat → Int32)) :=
  fX7_jammed_c146 M_posts M_rounds M_beside M_round k94 k107 M_thrown M_may M_then x1 x3 x4 x5 x7 0
def fX7_jammed_c256 (M_posts : Int32) (M_rounds : Int32) (M_beside : Nat → Int32) (M_round : Nat → Int32) (k94 : Int32 → (Nat → Int32) → (Nat → Int32) → Int32 → Int32 → Int32 → Int32 → Option (Int32 × Int32 × (Nat → Int32) × (Nat → Int32))) : Nat → Int32 → (Nat → Int32) → (Nat → Int32) → Int32 → Int32 → Int32 → Int32 → Int32 → Option (Int32 × Int32 × (Nat → Int32) × (Nat → Int32))
  | 0, _, _, _, _, _, _, _, _ => none
  | n256 + 1, M_thrown, M_may, M_then, x1, x3, x4, x5, x7 => (if 1536 ≤ x7 then k94 M_thrown M_may M_then x1 x3 x4 (x5 + 1) else ldx 1536 M_then x7 (fun v2 => sti 1536 M_may x7 (vp_nar .boolean v2) (fun g4 => fX7_jammed_c256 M_posts M_rounds M_beside M_round k94 n256 M_thrown g4 M_then x1 x3 x4 x5 (x7 + 1))))
def fX7_jammed_c173 (M_posts : Int32) (M_rounds : Int32) (M_beside : Nat → Int32) (M_round : Nat → Int32) (k94 : Int32 → (Nat → Int32) → (Nat → Int32) → Int32 → Int32 → Int32 → Int32 → Option (Int32 × Int32 × (Nat → Int32) × (Nat → Int32))) : Nat → Int32 → (Nat → Int32) → (Nat → Int32) → Int32 → Int32 → Int32 → Int32 → Int32 → Option (Int32 × Int32 × (Nat → Int32) × (Nat → Int32))
  | 0, _, _, _, _, _, _, _, _ => none
  | n173 + 1, M_thrown, M_may, M_then, x1, x3, x4, x5, x7 => (if 1536 ≤ x7 then fX7_jammed_c256 M_posts M_rounds M_beside M_round k94 FU M_thrown M_may M_then x1 x3 x4 x5 0 else ldx 1536 M_may x7 (fun v2 => (if v2 = 0 then fX7_jammed_c173 M_posts M_rounds M_beside M_round k94 n173 M_thrown M_may M_then x1 x3 x4 x5 (x7 + 1) else bd1 (fX7_soundsIn M_posts M_rounds M_round x5) (fun r5 => bd1 (fX7_spread M_posts M_beside x1 (x7 - x7 / 256 * 256) r5) (fun r7 => sti 1536 M_then (((256 : Int32) * (x7 / 256)) + r7) (vp_nar .boolean 1) (fun g9 => (if x3 ≤ (x7 / 256) then fX7_jammed_c173 M_posts M_rounds M_beside M_round k94 n173 M_thrown M_may g9 x1 x3 x4 x5 (x7 + 1) else sti 1536 g9 (x7 + (256 : Int32)) (vp_nar .boolean 1) (fun g12 => fX7_jammed_c173 M_posts M_rounds M_beside M_round k94 n173 M_thrown M_may g12 x1 x3 x4 x5 (x7 + 1)))))))))
def fX7_jammed_c107 (M_posts : Int32) (M_rounds : Int32) (M_beside : Nat → Int32) (M_round : Nat → Int32) (k94 : Int32 → (Nat → Int32) → (Nat → Int32) → Int32 → Int32 → Int32 → Int32 → Option (Int32 × Int32 × (Nat → Int32) × (Nat → Int32))) : Nat → Int32 → (Nat → Int32) → (Nat → Int32) → Int32 → Int32 → Int32 → Int32 → Int32 → Int32 → Option (Int32 × Int32 × (Nat → Int32) × (Nat → Int32))
  | 0, _, _, _, _, _, _, _, _, _ => none
  | n107 + 1, M_thrown, M_may, M_then, x1, x3, x4, x5, x6, x7 => (if 1536 ≤ x7 then (if x6 = 0 then fX7_jammed_c173 M_posts M_rounds M_beside M_round k94 FU M_thrown M_may M_then x1 x3 x4 x5 0 else some (x5, M_thrown, M_may, M_then)) else (if x6 = 0 then fX7_jammed_c145 M_posts M_rounds M_beside M_round k94 (fX7_jammed_c107 M_posts M_rounds M_beside M_round k94 n107) M_thrown M_may M_then x1 x3 x4 x5 x7 else ldx 1536 M_may x7 (fun v4 => (if v4 = 0 then fX7_jammed_c141 M_posts M_rounds M_beside M_round k94 (fX7_jammed_c107 M_posts M_rounds M_beside M_round k94 n107) M_thrown M_may M_then x1 x3 x4 x5 x7 else (if (x7 - x7 / 256 * 256) = x4 then fX7_jammed_c141 M_posts M_rounds M_beside M_round k94 (fX7_jammed_c107 M_posts M_rounds M_beside M_round k94 n107) M_thrown M_may M_then x1 x3 x4 x5 x7 else fX7_jammed_c145 M_posts M_rounds M_beside M_round k94 (fX7_jammed_c107 M_posts M_rounds M_beside M_round k94 n107) M_thrown M_may M_then x1 x3 x4 x5 x7)))))
def fX7_jammed_c94 (M_posts : Int32) (M_rounds : Int32) (M_beside : Nat → Int32) (M_round : Nat → Int32) : Nat → Int32 → (Nat → Int32) → (Nat → Int32) → Int32 → Int32 → Int32 → Int32 → Option (Int32 × Int32 × (Nat → Int32) × (Nat → Int32))
  | 0, _, _, _, _, _, _, _ => none
  | n94 + 1, M_thrown, M_may, M_then, x1, x3, x4, x5 => (if 60 < x5 then some ((-1000000), M_thrown, M_may, M_then) else fX7_jammed_c107 M_posts M_rounds M_beside M_round (fX7_jammed_c94 M_posts M_rounds M_beside M_round n94) FU M_thrown M_may M_then x1 x3 x4 x5 1 0)
def fX7_jammed_c57 (M_posts : Int32) (M_rounds : Int32) (M_beside : Nat → Int32) (M_round : Nat → Int32) : Nat → Int32 → (Nat → Int32) → (Nat → Int32) → Int32 → Int32 → Int32 → Int32 → Int32 → Option (Int32 × Int32 × (Nat → Int32) × (Nat → Int32))
  | 0, _, _, _, _, _, _, _, _ => none
  | n57 + 1, M_thrown, M_may, M_then, x1, x2, x3, x4, x5 => (if 1536 ≤ x5 then fX7_jammed_c94 M_posts M_rounds M_beside M_round FU M_thrown M_may M_then x1 x3 x4 0 else (if x5 = ((1 : Int32) <<< (x2 &&& 31)) then sti 1536 M_may x5 (vp_nar .boolean 1) (fun g5 => fX7_jammed_c57 M_posts M_rounds M_beside M_round n57 M_thrown g5 M_then x1 x2 x3 x4 (x5 + 1)) else sti 1536 M_may x5 (vp_nar .boolean 0) (fun g3 => fX7_jammed_c57 M_posts M_rounds M_beside M_round n57 M_thrown g3 M_then x1 x2 x3 x4 (x5 + 1))))
def fX7_jammed (M_thrown : Int32) (M_posts : Int32) (M_rounds : Int32) (M_beside : Nat → Int32) (M_round : Nat → Int32) (M_may : Nat → Int32) (M_then : Nat → Int32) (p0 : Int32) (p1 : Int32) (p2 : Int32) : Option (Int32 × Int32 × (Nat → Int32) × (Nat → Int32)) :=
  bd1 (fX7_isHearing p0) (fun r1 => (if r1 = 0 then some ((-1000001), 0, M_may, M_then) else bd1 (fX7_isPost M_posts p1) (fun r4 => (if r4 = 0 then some ((-1000001), 0, M_may, M_then) else bd1 (fX7_in p2.toInt64 0 5) (fun r7 => (if r7 = 0 then some ((-1000001), 0, M_may, M_then) else (if M_rounds = 0 then some ((-1000002), 0, M_may, M_then) else bd1 (fX7_reach M_posts M_beside ((1 : Int32) <<< (p1 &&& 31))) (fun r11 => fX7_jammed_c57 M_posts M_rounds M_beside M_round FU 0 M_may M_then p0 p1 p2 r11 0))))))))
def rmX7_jammed : Room := { frames := 3, cells := 0, slots := 0, locals := 70 }
-- X7_draws
def fX7_draws_c122 (M_posts : Int32) (M_beside : Nat → Int32) (k76 : Int32 → (Nat → Int64) → (Nat → Int64) → Int32 → Int32 → Int32 → Int32 → Option (Int64 × Int32 × (Nat → Int64) × (Nat → Int64))) (k110 : Int32 → (Nat → Int64) → (Nat → Int64) → Int32 → Int32 → Int32 → Int32 → Int32 → Option (Int64 × Int32 × (Nat → Int64) × (Nat → Int64))) : Nat → Int32 → (Nat → Int64) → (Nat → Int64) → Int32 → Int32 → Int32 → Int32 → Int32 → Int32 → Option (Int64 × Int32 × (Nat → Int64) × (Nat → Int64))
  | 0, _, _, _, _, _, _, _, _, _ => none
  | n122 + 1, M_thrown, M_cases, M_next, x1, x2, x3, x4, x5, x6 => bd1 (fX7_all M_posts) (fun r1 => (if r1 < x6 then k110 M_thrown M_cases M_next x1 x2 x3 x4 (x5 + 1) else ldx 256 M_cases x5 (fun v4 => (if (lg_cmp v4 0) ≤ 0 then k110 M_thrown M_cases M_next x1 x2 x3 x4 (x5 + 1) else bd1 (fX7_spread M_posts M_beside x1 x5 x6) (fun r7 => ldx 256 M_next r7 (fun v9 => ldx 256 M_cases x5 (fun v11 => stl 256 M_next r7 (v9 + v11) (fun g13 => fX7_draws_c122 M_posts M_beside k76 k110 n122 M_thrown M_cases g13 x1 x2 x3 x4 x5 (x6 + 1)))))))))
def fX7_draws_c182 (M_posts : Int32) (M_beside : Nat → Int32) (k76 : Int32 → (Nat → Int64) → (Nat → Int64) → Int32 → Int32 → Int32 → Int32 → Option (Int64 × Int32 × (Nat → Int64) × (Nat → Int64))) : Nat → Int32 → (Nat → Int64) → (Nat → Int64) → Int32 → Int32 → Int32 → Int32 → Int32 → Option (Int64 × Int32 × (Nat → Int64) × (Nat → Int64))
  | 0, _, _, _, _, _, _, _, _ => none
  | n182 + 1, M_thrown, M_cases, M_next, x1, x2, x3, x4, x5 => (if 256 ≤ x5 then k76 M_thrown M_cases M_next x1 x2 x3 (x4 + 1) else ldx 256 M_next x5 (fun v2 => stl 256 M_cases x5 v2 (fun g4 => fX7_draws_c182 M_posts M_beside k76 n182 M_thrown g4 M_next x1 x2 x3 x4 (x5 + 1))))
def fX7_draws_c110 (M_posts : Int32) (M_beside : Nat → Int32) (k76 : Int32 → (Nat → Int64) → (Nat → Int64) → Int32 → Int32 → Int32 → Int32 → Option (Int64 × Int32 × (Nat → Int64) × (Nat → Int64))) : Nat → Int32 → (Nat → Int64) → (Nat → Int64) → Int32 → Int32 → Int32 → Int32 → Int32 → Option (Int64 × Int32 × (Nat → Int64) × (Nat → Int64))
  | 0, _, _, _, _, _, _, _, _ => none
  | n110 + 1, M_thrown, M_cases, M_next, x1, x2, x3, x4, x5 => bd1 (fX7_all M_posts) (fun r1 => (if r1 < x5 then fX7_draws_c182 M_posts M_beside k76 FU M_thrown M_cases M_next x1 x2 x3 x4 0 else fX7_draws_c122 M_posts M_beside k76 (fX7_draws_c110 M_posts M_beside k76 n110) FU M_thrown M_cases M_next x1 x2 x3 x4 x5 0))
def fX7_draws_c85 (M_posts : Int32) (M_beside : Nat → Int32) (k76 : Int32 → (Nat → Int64) → (Nat → Int64) → Int32 → Int32 → Int32 → Int32 → Option (Int64 × Int32 × (Nat → Int64) × (Nat → Int64))) : Nat → Int32 → (Nat → Int64) → (Nat → Int64) → Int32 → Int32 → Int32 → Int32 → Int32 → Option (Int64 × Int32 × (Nat → Int64) × (Nat → Int64))
  | 0, _, _, _, _, _, _, _, _ => none
  | n85 + 1, M_thrown, M_cases, M_next, x1, x2, x3, x4, x5 => (if 256 ≤ x5 then fX7_draws_c110 M_posts M_beside k76 FU M_thrown M_cases M_next x1 x2 x3 x4 0 else stl 256 M_next x5 0 (fun g2 => fX7_draws_c85 M_posts M_beside k76 n85 M_thrown M_cases g2 x1 x2 x3 x4 (x5 + 1)))
def fX7_draws_c76 (M_posts : Int32) (M_beside : Nat → Int32) : Nat → Int32 → (Nat → Int64) → (Nat → Int64) → Int32 → Int32 → Int32 → Int32 → Option (Int64 × Int32 × (Nat → Int64) × (Nat → Int64))
  | 0, _, _, _, _, _, _, _ => none
  | n76 + 1, M_thrown, M_cases, M_next, x1, x2, x3, x4 => (if x3 ≤ x4 then bd1 (fX7_reach M_posts M_beside ((1 : Int32) <<< (x2 &&& 31))) (fun r2 => ldx 256 M_cases r2 (fun v4 => some (v4, M_thrown, M_cases, M_next))) else fX7_draws_c85 M_posts M_beside (fX7_draws_c76 M_posts M_beside n76) FU M_thrown M_cases M_next x1 x2 x3 x4 0)
def fX7_draws_c39 (M_posts : Int32) (M_beside : Nat → Int32) : Nat → Int32 → (Nat → Int64) → (Nat → Int64) → Int32 → Int32 → Int32 → Int32 → Option (Int64 × Int32 × (Nat → Int64) × (Nat → Int64))
  | 0, _, _, _, _, _, _, _ => none
  | n39 + 1, M_thrown, M_cases, M_next, x1, x2, x3, x4 => (if 256 ≤ x4 then fX7_draws_c76 M_posts M_beside FU M_thrown M_cases M_next x1 x2 x3 0 else (if x4 = ((1 : Int32) <<< (x2 &&& 31)) then stl 256 M_cases x4 1 (fun g5 => fX7_draws_c39 M_posts M_beside n39 M_thrown g5 M_next x1 x2 x3 (x4 + 1)) else stl 256 M_cases x4 0 (fun g3 => fX7_draws_c39 M_posts M_beside n39 M_thrown g3 M_next x1 x2 x3 (x4 + 1))))
def fX7_draws (M_thrown : Int32) (M_posts : Int32) (M_beside : Nat → Int32) (M_cases : Nat → Int64) (M_next : Nat → Int64) (p0 : Int32) (p1 : Int32) (p2 : Int32) : Option (Int64 × Int32 × (Nat → Int64) × (Nat → Int64)) :=
  bd1 (fX7_isHearing p0) (fun r1 => (if r1 = 0 then some ((-1000001), 0, M_cases, M_next) else bd1 (fX7_isPost M_posts p1) (fun r4 => (if r4 = 0 then some ((-1000001), 0, M_cases, M_next) else bd1 (fX7_in p2.toInt64 0 7) (fun r7 => (if r7 = 0 then some ((-1000001), 0, M_cases, M_next) else fX7_draws_c39 M_posts M_beside FU 0 M_cases M_next p0 p1 p2 0))))))
def rmX7_draws : Room := { frames := 3, cells := 0, slots := 0, locals := 70 }
-- X7_picks
def fX7_picks_c160 (M_posts : Int32) (M_lane : Nat → Int32) (M_many : Nat → Int32) (M_item : Nat → Int32) (k100 : Int32 → Int32 → Int32 → Int32 → Int32 → Int32 → Int32 → Int32 → Option (Int32 × Int32 × Int32)) (k125 : Int32 → Int32 → Int32 → Int32 → Int32 → Int32 → Int32 → Int32 → Int32 → Int32 → Option (Int32 × Int32 × Int32)) (M_thrown : Int32) (M_status : Int32) (x1 : Int32) (x2 : Int32) (x3 : Int32) (x4 : Int32) (x5 : Int32) (x6 : Int32) (x8 : Int32) : Option (Int32 × Int32 × Int32) :=
  k125 M_thrown M_status x1 x2 x3 x4 x5 x6 1 (x8 + 1)
def fX7_picks_c125 (M_posts : Int32) (M_lane : Nat → Int32) (M_many : Nat → Int32) (M_item : Nat → Int32) (k100 : Int32 → Int32 → Int32 → Int32 → Int32 → Int32 → Int32 → Int32 → Option (Int32 × Int32 × Int32)) : Nat → Int32 → Int32 → Int32 → Int32 → Int32 → Int32 → Int32 → Int32 → Int32 → Int32 → Option (Int32 × Int32 × Int32)
  | 0, _, _, _, _, _, _, _, _, _, _ => none
  | n125 + 1, M_thrown, M_status, x1, x2, x3, x4, x5, x6, x7, x8 => (if x3 ≤ x8 then (if x7 = 0 then (if x5 = 0 then some (0, M_thrown, M_status) else some (x6, M_thrown, M_status)) else k100 M_thrown M_status x1 x2 x3 x4 x5 (x6 + 1)) else (if x7 = 0 then ldx 320 M_item ((((40 : Int32) * x1) + x2) + x8) (fun v5 => bd1 (fX7_size (v5 &&& x6)) (fun r7 => (if r7 = 1 then fX7_picks_c160 M_posts M_lane M_many M_item k100 (fX7_picks_c125 M_posts M_lane M_many M_item k100 n125) M_thrown M_status x1 x2 x3 x4 x5 x6 x8 else fX7_picks_c125 M_posts M_lane M_many M_item k100 n125 M_thrown M_status x1 x2 x3 x4 x5 x6 0 (x8 + 1)))) else fX7_picks_c160 M_posts M_lane M_many M_item k100 (fX7_picks_c125 M_posts M_lane M_many M_item k100 n125) M_thrown M_status x1 x2 x3 x4 x5 x6 x8))
def fX7_picks_c100 (M_posts : Int32) (M_lane : Nat → Int32) (M_many : Nat → Int32) (M_item : Nat → Int32) : Nat → Int32 → Int32 → Int32 → Int32 → Int32 → Int32 → Int32 → Int32 → Option (Int32 × Int32 × Int32)
  | 0, _, _, _, _, _, _, _, _ => none
  | n100 + 1, M_thrown, M_status, x1, x2, x3, x4, x5, x6 => bd1 (fX7_all M_posts) (fun r1 => (if r1 < x6 then (if x5 = 0 then some (1, M_thrown, M_status) else some ((-1000000), M_thrown, M_status)) else bd1 (fX7_size x6) (fun r5 => (if x4 < r5 then fX7_picks_c100 M_posts M_lane M_many M_item n100 M_thrown M_status x1 x2 x3 x4 x5 (x6 + 1) else fX7_picks_c125 M_posts M_lane M_many M_item (fX7_picks_c100 M_posts M_lane M_many M_item n100) FU M_thrown M_status x1 x2 x3 x4 x5 x6 0 0))))
def fX7_picks (M_thrown : Int32) (M_status : Int32) (M_posts : Int32) (M_lane : Nat → Int32) (M_many : Nat → Int32) (M_item : Nat → Int32) (p0 : Int32) (p1 : Int32) (p2 : Int32) (p3 : Int32) (p4 : Int32) : Option (Int32 × Int32 × Int32) :=
  bd1 (fX7_isSheet p0) (fun r1 => (if r1 = 0 then some ((-1000001), 0, M_status) else bd1 (fX7_in p2.toInt64 1 40) (fun r4 => (if r4 = 0 then some ((-1000001), 0, M_status) else bd1 (fX7_in p3.toInt64 1 4) (fun r7 => (if r7 = 0 then some ((-1000001), 0, M_status) else bd1 (fX7_in p4.toInt64 0 1) (fun r10 => (if r10 = 0 then some ((-1000001), 0, M_status) else ldx 8 M_lane p0 (fun v13 => (if 0 ≤ v13 then (if p1 < 0 then bd2 (fX7_found 0 2) (fun r17 M_status_18 => some (r17, 0, M_status_18)) else ldx 8 M_many p0 (fun v20 => (if (lg_cmp (p1.toInt64 + p2.toInt64) v20.toInt64) ≤ 0 then fX7_picks_c100 M_posts M_lane M_many M_item FU 0 0 p0 p1 p2 p3 p4 1 else bd2 (fX7_found 0 2) (fun r23 M_status_24 => some (r23, 0, M_status_24))))) else bd2 (fX7_found 0 1) (fun r26 M_status_27 => some (r26, 0, M_status_27))))))))))))
def rmX7_picks : Room := { frames := 2, cells := 0, slots := 0, locals := 45 }
-- X7_kindOf
def fX7_kindOf_c15 (M_posts : Int32) (M_beside : Nat → Int32) : Nat → Int32 → Int32 → Int32 → Option (Int32)
  | 0, _, _, _ => none
  | n15 + 1, x2, x3, x4 => (if M_posts ≤ x4 then (if x2 = 0 then some 4 else (if x2 = 1 then some 2 else (if x2 = x3 then some 3 else some 1))) else ldx 8 M_beside x4 (fun v5 => bd1 (fX7_size v5) (fun r7 => (if r7 ≤ x3 then fX7_kindOf_c15 M_posts M_beside n15 x2 x3 (x4 + 1) else ldx 8 M_beside x4 (fun v10 => bd1 (fX7_size v10) (fun r12 => fX7_kindOf_c15 M_posts M_beside n15 x2 r12 (x4 + 1)))))))
def fX7_kindOf (M_posts : Int32) (M_beside : Nat → Int32) (p0 : Int32) : Option (Int32) :=
  ldx 8 M_beside p0 (fun v1 => bd1 (fX7_size v1) (fun r3 => fX7_kindOf_c15 M_posts M_beside FU r3 0 0))
def rmX7_kindOf : Room := { frames := 1, cells := 0, slots := 0, locals := 22 }
-- X7_isOf
def fX7_isOf (p0 : Int32) (p1 : Int32) : Option (Int32) :=
  (if p1 = 0 then some 1 else (if p0 = p1 then some 1 else (if p1 = 1 then (if p0 = 2 then some 1 else (if p0 = 3 then some 1 else some 0)) else some 0)))
def rmX7_isOf : Room := { frames := 0, cells := 0, slots := 0, locals := 0 }
-- X7_kind
def fX7_kind (M_thrown : Int32) (M_posts : Int32) (M_beside : Nat → Int32) (p0 : Int32) : Option (Int32 × Int32) :=
  bd1 (fX7_isPost M_posts p0) (fun r1 => (if r1 = 0 then some ((-1000001), 0) else bd1 (fX7_kindOf M_posts M_beside p0) (fun r4 => some (r4, 0))))
def rmX7_kind : Room := { frames := 2, cells := 0, slots := 0, locals := 46 }
-- X7_as
def fX7_as (M_thrown : Int32) (M_status : Int32) (M_posts : Int32) (M_beside : Nat → Int32) (p0 : Int32) (p1 : Int32) : Option (Int32 × Int32 × Int32) :=
  bd1 (fX7_isPost M_posts p0) (fun r1 => (if r1 = 0 then some ((-1000001), 0, M_status) else bd1 (fX7_in p1.toInt64 0 4) (fun r4 => (if r4 = 0 then some ((-1000001), 0, M_status) else bd1 (fX7_kindOf M_posts M_beside p0) (fun r7 => bd1 (fX7_isOf r7 p1) (fun r9 => (if r9 = 0 then bd2 (fX7_found 0 3) (fun r12 M_status_13 => some (r12, 0, M_status_13)) else ldx 8 M_beside p0 (fun v15 => bd1 (fX7_size v15) (fun r17 => some (r17, 0, 0))))))))))
def rmX7_as : Room := { frames := 2, cells := 0, slots := 0, locals := 46 }
-- X7_began
def fX7_began (M_traced : Int32) (M_trace : Nat → Int32) (p0 : Int32) : Option (Int32 × (Nat → Int32)) :=
  (if 16 ≤ M_traced then some (M_traced, M_trace) else sti 16 M_trace M_traced p0 (fun g2 => some ((M_traced + (1 : Int32)), g2)))
def rmX7_began : Room := { frames := 0, cells := 0, slots := 0, locals := 0 }
-- X7_sized
def fX7_sized_c68 (M_posts : Int32) (M_beside : Nat → Int32) (M_traced : Int32) (M_trace : Nat → Int32) (x1 : Int32) (x2 : Int32) (t0 : Int32) (t1 : Int32) : Option (Int32 × Int32 × (Nat → Int32)) :=
  (if x2 = 3 then bd2 (fX7_began M_traced M_trace 21) (fun M_traced_3 M_trace_4 => bd2 (fX7_began M_traced_3 M_trace_4 20) (fun M_traced_6 M_trace_7 => some (((t0 + t1) + x1) + (100 : Int32), M_traced_6, M_trace_7))) else (if x2 = 2 then some ((2 : Int32) * (t0 + t1), M_traced, M_trace) else some (t0 + t1, M_traced, M_trace)))
def fX7_sized_c39 (M_posts : Int32) (M_beside : Nat → Int32) (M_traced : Int32) (M_trace : Nat → Int32) (x1 : Int32) (x2 : Int32) : Option (Int32 × Int32 × (Nat → Int32)) :=
  bd2 (fX7_began M_traced M_trace 10) (fun M_traced_1 M_trace_2 => ldx 8 M_beside x1 (fun v4 => bd1 (fX7_size v4) (fun r6 => (if x2 = 4 then fX7_sized_c68 M_posts M_beside M_traced_1 M_trace_2 x1 x2 r6 0 else bd1 (fX7_widthOf M_posts M_beside x1) (fun r9 => fX7_sized_c68 M_posts M_beside M_traced_1 M_trace_2 x1 x2 r6 r9)))))
def fX7_sized_c28 (M_posts : Int32) (M_beside : Nat → Int32) (M_traced : Int32) (M_trace : Nat → Int32) (x1 : Int32) (x2 : Int32) : Option (Int32 × Int32 × (Nat → Int32)) :=
  (if x2 = 4 then fX7_sized_c39 M_posts M_beside M_traced M_trace x1 x2 else bd2 (fX7_began M_traced M_trace 11) (fun M_traced_2 M_trace_3 => fX7_sized_c39 M_posts M_beside M_traced_2 M_trace_3 x1 x2))
def fX7_sized_c17 (M_posts : Int32) (M_beside : Nat → Int32) (M_traced : Int32) (M_trace : Nat → Int32) (x1 : Int32) (x2 : Int32) : Option (Int32 × Int32 × (Nat → Int32)) :=
  (if x2 = 3 then bd2 (fX7_began M_traced M_trace 13) (fun M_traced_2 M_trace_3 => fX7_sized_c28 M_posts M_beside M_traced_2 M_trace_3 x1 x2) else fX7_sized_c28 M_posts M_beside M_traced M_trace x1 x2)
def fX7_sized (M_posts : Int32) (M_traced : Int32) (M_beside : Nat → Int32) (M_trace : Nat → Int32) (p0 : Int32) : Option (Int32 × Int32 × (Nat → Int32)) :=
  bd1 (fX7_kindOf M_posts M_beside p0) (fun r1 => (if r1 = 2 then bd2 (fX7_began M_traced M_trace 12) (fun M_traced_4 M_trace_5 => fX7_sized_c17 M_posts M_beside M_traced_4 M_trace_5 p0 r1) else fX7_sized_c17 M_posts M_beside M_traced M_trace p0 r1))
def rmX7_sized : Room := { frames := 3, cells := 0, slots := 0, locals := 70 }
-- X7_marked
def fX7_marked_c28 (M_posts : Int32) (M_beside : Nat → Int32) (M_traced : Int32) (M_trace : Nat → Int32) (x1 : Int32) (x2 : Int32) : Option (Int32 × Int32 × (Nat → Int32)) :=
  bd2 (fX7_began M_traced M_trace 20) (fun M_traced_1 M_trace_2 => (if x2 = 3 then some (x1 + (100 : Int32), M_traced_1, M_trace_2) else (if x2 = 4 then bd3 (fX7_sized M_posts M_traced_1 M_beside M_trace_2 x1) (fun r6 M_traced_7 M_trace_8 => some (x1 + r6, M_traced_7, M_trace_8)) else some (x1 + (0 : Int32), M_traced_1, M_trace_2))))
def fX7_marked_c17 (M_posts : Int32) (M_beside : Nat → Int32) (M_traced : Int32) (M_trace : Nat → Int32) (x1 : Int32) (x2 : Int32) : Option (Int32 × Int32 × (Nat → Int32)) :=
  (if x2 = 4 then bd2 (fX7_began M_traced M_trace 22) (fun M_traced_2 M_trace_3 => fX7_marked_c28 M_posts M_beside M_traced_2 M_trace_3 x1 x2) else fX7_marked_c28 M_posts M_beside M_traced M_trace x1 x2)
def fX7_marked (M_posts : Int32) (M_traced : Int32) (M_beside : Nat → Int32) (M_trace : Nat → Int32) (p0 : Int32) : Option (Int32 × Int32 × (Nat → Int32)) :=
  bd1 (fX7_kindOf M_posts M_beside p0) (fun r1 => (if r1 = 3 then bd2 (fX7_began M_traced M_trace 21) (fun M_traced_4 M_trace_5 => fX7_marked_c17 M_posts M_beside M_traced_4 M_trace_5 p0 r1) else fX7_marked_c17 M_posts M_beside M_traced M_trace p0 r1))
def rmX7_marked : Room := { frames := 4, cells := 0, slots := 0, locals := 93 }
-- X7_ask
def fX7_ask (M_thrown : Int32) (M_posts : Int32) (M_traced : Int32) (M_beside : Nat → Int32) (M_trace : Nat → Int32) (p0 : Int32) (p1 : Int32) : Option (Int32 × Int32 × Int32 × (Nat → Int32)) :=
  bd1 (fX7_isPost M_posts p0) (fun r1 => (if r1 = 0 then some ((-1000001), 0, M_traced, M_trace) else bd1 (fX7_in p1.toInt64 0 1) (fun r4 => (if r4 = 0 then some ((-1000001), 0, M_traced, M_trace) else (if p1 = 0 then bd3 (fX7_sized M_posts 0 M_beside M_trace p0) (fun r12 M_traced_13 M_trace_14 => some (r12, 0, M_traced_13, M_trace_14)) else bd3 (fX7_marked M_posts 0 M_beside M_trace p0) (fun r8 M_traced_9 M_trace_10 => some (r8, 0, M_traced_9, M_trace_10)))))))
def rmX7_ask : Room := { frames := 5, cells := 0, slots := 0, locals := 115 }
-- X7_trace
def fX7_trace (M_thrown : Int32) (M_traced : Int32) (M_trace : Nat → Int32) (p0 : Int32) : Option (Int32 × Int32) :=
  bd1 (fX7_in p0.toInt64 0 ((M_traced - (1 : Int32)).toInt64)) (fun r1 => (if r1 = 0 then some ((-1000000), 0) else ldx 16 M_trace p0 (fun v4 => some (v4, 0))))
def rmX7_trace : Room := { frames := 1, cells := 0, slots := 0, locals := 25 }
-- X7_count
def fX7_count_c58 (M_posts : Int32) (M_rounds : Int32) (M_taped : Int32) (M_lane : Nat → Int32) (M_beside : Nat → Int32) : Nat → Int32 → Int32 → Int32 → Option (Int32 × Int32)
  | 0, _, _, _ => none
  | n58 + 1, M_thrown, x2, x3 => (if 8 ≤ x3 then some (x2, M_thrown) else ldx 8 M_lane x3 (fun v2 => (if v2 < 0 then fX7_count_c58 M_posts M_rounds M_taped M_lane M_beside n58 M_thrown (x2 + (0 : Int32)) (x3 + 1) else fX7_count_c58 M_posts M_rounds M_taped M_lane M_beside n58 M_thrown (x2 + (1 : Int32)) (x3 + 1))))
def fX7_count_c96 (M_posts : Int32) (M_rounds : Int32) (M_taped : Int32) (M_lane : Nat → Int32) (M_beside : Nat → Int32) : Nat → Int32 → Int32 → Int32 → Option (Int32 × Int32)
  | 0, _, _, _ => none
  | n96 + 1, M_thrown, x2, x3 => (if M_posts ≤ x3 then some (x2 / 2, M_thrown) else ldx 8 M_beside x3 (fun v2 => bd1 (fX7_size v2) (fun r4 => fX7_count_c96 M_posts M_rounds M_taped M_lane M_beside n96 M_thrown (x2 + r4) (x3 + 1))))
def fX7_count_c133 (M_posts : Int32) (M_rounds : Int32) (M_taped : Int32) (M_lane : Nat → Int32) (M_beside : Nat → Int32) : Nat → Int32 → Int32 → Int32 → Int32 → Option (Int32 × Int32)
  | 0, _, _, _, _ => none
  | n133 + 1, M_thrown, x1, x2, x3 => (if M_posts ≤ x3 then some (x2, M_thrown) else bd1 (fX7_kindOf M_posts M_beside x3) (fun r2 => (if r2 = (x1 - (2 : Int32)) then fX7_count_c133 M_posts M_rounds M_taped M_lane M_beside n133 M_thrown x1 (x2 + (1 : Int32)) (x3 + 1) else fX7_count_c133 M_posts M_rounds M_taped M_lane M_beside n133 M_thrown x1 (x2 + (0 : Int32)) (x3 + 1))))
def fX7_count (M_thrown : Int32) (M_posts : Int32) (M_rounds : Int32) (M_taped : Int32) (M_lane : Nat → Int32) (M_beside : Nat → Int32) (p0 : Int32) : Option (Int32 × Int32) :=
  (if p0 = 0 then fX7_count_c58 M_posts M_rounds M_taped M_lane M_beside FU 0 0 0 else (if p0 = 1 then some (M_posts, 0) else (if p0 = 2 then fX7_count_c96 M_posts M_rounds M_taped M_lane M_beside FU 0 0 0 else (if p0 = 3 then some (M_rounds, 0) else (if p0 = 4 then fX7_count_c133 M_posts M_rounds M_taped M_lane M_beside FU 0 p0 0 0 else (if p0 = 5 then fX7_count_c133 M_posts M_rounds M_taped M_lane M_beside FU 0 p0 0 0 else (if p0 = 6 then fX7_count_c133 M_posts M_rounds M_taped M_lane M_beside FU 0 p0 0 0 else (if p0 = 7 then some (M_taped, 0) else some ((-1000001), 0)))))))))
def rmX7_count : Room := { frames := 2, cells := 0, slots := 0, locals := 46 }
-- X7_status
def fX7_status (M_thrown : Int32) (M_status : Int32) : Option (Int32 × Int32) :=
  some (M_status, 0)
def rmX7_status : Room := { frames := 0, cells := 0, slots := 0, locals := 0 }
