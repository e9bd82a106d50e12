def wdN (k : Nat) : Nat := ([5, 3, 5] : List Nat).getD k 0
def wdC (k i : Nat) : Int32 := (([[114, 111, 117, 110, 100], [97, 108, 108], [116, 119, 105, 99, 101]] : List (List Int32)).getD k []).getD i 0
def fX2_isWord_c (R_start : Int32) (R_tape : Nat → Int32) (k : Nat) : Nat → Nat → Option Int32
  | 0, _ => none
  | n + 1, i => if wdN k ≤ i then some 1 else ldx 300 R_tape (R_start + nI i) (fun v => if v = wdC k i then fX2_isWord_c R_start R_tape k n (i + 1) else some 0)
def fX2_isWord (R_start R_behind : Int32) (R_tape : Nat → Int32) (k : Nat) : Option Int32 := if k < 3 then (if R_behind - R_start = nI (wdN k) then fX2_isWord_c R_start R_tape k FU 0 else some 0) else none
