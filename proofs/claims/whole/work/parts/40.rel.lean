/-! what class and reference have in common, piece by piece -/
def RTape (ts : Int32) (tb : Nat → Int32) (mt : Int32) (mr : Nat → Int32) : Prop := ∃ n : Nat, n ≤ 240 ∧ ts = nI n ∧ mt = nI n ∧ ∀ j, j < n → (tb j).toInt8.toInt32 = tb j ∧ mr j = tb j &&& 255
def ROne (many has would fail must : Int32) : Prop := 1 ≤ many.toInt ∧ many.toInt ≤ 50 ∧ 0 ≤ has.toInt ∧ has.toInt ≤ 99 ∧ 0 ≤ would.toInt ∧ would.toInt ≤ 99 ∧ 0 ≤ fail.toInt ∧ fail.toInt ≤ 10 ∧ 0 ≤ must.toInt ∧ must.toInt ≤ many.toInt
def RStock (size mark look pay keen : Int32) (many has would fail must : Nat → Int32) (sm : Int32) (sorts rules : Nat → Int32) : Prop :=
  (∃ n : Nat, n ≤ 8 ∧ size = nI n ∧ sm = nI n ∧ ∀ s, s < n → sorts (5 * s) = many s ∧ sorts (5 * s + 1) = has s ∧ sorts (5 * s + 2) = would s ∧ sorts (5 * s + 3) = fail s ∧ sorts (5 * s + 4) = must s ∧ ROne (many s) (has s) (would s) (fail s) (must s)) ∧
  rules 0 = mark ∧ rules 1 = look ∧ rules 2 = pay ∧ rules 3 = keen ∧ 0 ≤ mark.toInt ∧ mark.toInt ≤ 99 ∧ 4 ≤ look.toInt ∧ look.toInt ≤ 8 ∧ 0 ≤ pay.toInt ∧ pay.toInt ≤ 20 ∧ 1 ≤ keen.toInt ∧ keen.toInt ≤ 10
def RConst (cuts letters : Nat → Int32) : Prop := (∀ j, j < 7 → cuts j = nI (4 * j)) ∧ (∀ j, j < 24 → letters j = nI ([115, 111, 114, 116, 102, 97, 105, 108, 109, 117, 115, 116, 109, 97, 114, 107, 108, 111, 111, 107, 107, 101, 101, 110].getD j 0))
def RSheet (k : Nat) (size lane : Int32) (cells : Nat → Int32) (lanes lengths mc : Nat → Int32) : Prop :=
  ((size = -1 ∧ lanes k = -4) ∨ (∃ n : Nat, n ≤ 40 ∧ size = nI n ∧ lengths k = nI n ∧ lanes k = lane ∧ (lane = 0 ∨ lane = 1 ∨ lane = 2))) ∧ ∀ j, j < 40 → mc (40 * k + j) = cells j
def Rel (ts : Int32) (tb : Nat → Int32) (mt : Int32) (mr : Nat → Int32) (tf mf rf mtorn : Int32) (size mark look pay keen : Int32) (many has would fail must : Nat → Int32) (sm : Int32) (sorts rules : Nat → Int32) (leftOut : Int32) (cuts letters : Nat → Int32)
    (s0 l0 : Int32) (c0 : Nat → Int32) (s1 l1 : Int32) (c1 : Nat → Int32) (s2 l2 : Int32) (c2 : Nat → Int32) (s3 l3 : Int32) (c3 : Nat → Int32) (lanes lengths mc : Nat → Int32) : Prop :=
  RTape ts tb mt mr ∧ tf = mf ∧ rf = mtorn ∧ RStock size mark look pay keen many has would fail must sm sorts rules ∧ leftOut = -4 ∧ RConst cuts letters ∧ RSheet 0 s0 l0 c0 lanes lengths mc ∧ RSheet 1 s1 l1 c1 lanes lengths mc ∧ RSheet 2 s2 l2 c2 lanes lengths mc ∧ RSheet 3 s3 l3 c3 lanes lengths mc
