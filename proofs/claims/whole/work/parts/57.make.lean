section MakeA
theorem whole5 {has fail : Nat → Int32} {s : Nat} (hs : s < 8) (k w p : Int32) : fX4_isWhole has fail (nI s) k w p = some (cwh k w p (has s) (fail s)) := by
  unfold fX4_isWhole cwh fX2_tenthsForWarrant
  simp only [ckI_nI hs (by omega : (8 : Nat) < 2 ^ 31), nI_clamp (show s < 2 ^ 31 by omega), bd_s]
  by_cases e1 : k = 1
  · simp only [if_pos e1]
    by_cases c : 10 * p < 10 * has s + fail s * w
    · simp only [if_pos c]
    · simp only [if_neg c]
  · simp only [if_neg e1]
    by_cases e3 : k = 3
    · simp only [if_pos e3]
      by_cases c : fail s * w = 100
      · simp only [if_pos c, bd_s, one0, ite_false]
        by_cases c2 : has s ≤ p <;> simp only [if_pos, if_neg, c2, not_false_eq_true, ite_true, ite_false]
      · simp only [if_neg c, bd_s, ite_true]
        by_cases c2 : has s ≤ p <;> simp only [c2, ite_true, ite_false]
    · simp only [if_neg e3, bd_s, ite_true]
      by_cases c2 : has s ≤ p
      · rw [if_pos c2, if_neg (by rw [fa_lt]; rw [fa_le] at c2; omega)]
      · rw [if_neg c2, if_pos (by rw [fa_lt]; rw [fa_le] at c2; omega)]
theorem parts5 {would fail : Nat → Int32} {s : Nat} (hs : s < 8) (mark look k w : Int32) : fX4_partsOfOne would fail mark look (nI s) k w = some (oneI k w (would s) (fail s) mark look) := by
  unfold fX4_partsOfOne oneI
  simp only [ckI_nI hs (by omega : (8 : Nat) < 2 ^ 31), nI_clamp (show s < 2 ^ 31 by omega), good_b would mark hs, bd_s]
  by_cases e2 : k = 2
  · simp only [if_pos e2]
    unfold goodB
    by_cases c : would s < mark
    · simp [c, bd_s]
    · simp [c, bd_s]
  · simp only [if_neg e2]
    by_cases e3 : k = 3
    · simp only [if_pos e3]
    · simp only [if_neg e3]
theorem whole6 {sorts has fail : Nat → Int32} {s : Nat} (hs : s < 8) (h1 : sorts (5 * s + 1) = has s) (h3 : sorts (5 * s + 3) = fail s) (k w p : Int32) : fX6_comesWhole sorts k w p (nI s) = some (cwh k w p (has s) (fail s)) := by
  unfold fX6_comesWhole cwh
  simp only [i1' hs, i3' hs, h1, h3, bd_s]
  by_cases e1 : k = 1
  · simp only [if_pos e1]
    by_cases c : 10 * p < 10 * has s + fail s * w
    · simp only [if_pos c]
    · simp only [if_neg c]
  · simp only [if_neg e1]
    by_cases e3 : k = 3
    · simp only [if_pos e3]
      by_cases c2 : has s ≤ p
      · simp only [if_pos c2]
      · simp only [if_neg c2]
        by_cases c : fail s * w = 100
        · simp only [if_pos c]
        · simp only [if_neg c]
    · simp only [if_neg e3]
      by_cases c : p < has s
      · simp only [if_pos c]
      · simp only [if_neg c]
theorem parts6 {sorts rules would fail : Nat → Int32} {mark look : Int32} {s : Nat} (hs : s < 8) (h2 : sorts (5 * s + 2) = would s) (h3 : sorts (5 * s + 3) = fail s) (r0 : rules 0 = mark) (r1 : rules 1 = look) (k w : Int32) : fX6_partsOf sorts rules k w (nI s) = some (oneI k w (would s) (fail s) mark look) := by
  unfold fX6_partsOf oneI
  simp only [i3' hs, h3, bd_s, good6 hs h2 r0, good_b would mark hs]
  have e : rules (1 : Int32).toNatClampNeg = look := r1
  by_cases e2 : k = 2
  · simp only [if_pos e2, e]
    unfold goodB
    by_cases c : would s < mark
    · simp [c, bd_s]
    · simp [c, bd_s]
  · simp only [if_neg e2]
    by_cases e3 : k = 3
    · simp only [if_pos e3]
    · simp only [if_neg e3]
end MakeA
section MakeB
variable (many has would fail must : Nat → Int32) (mark look k w p hp : Int32)
def qAl (s : Nat) : Int32 := if k = 4 then hp else cwh k w p (has s) (fail s)
def qCo (s : Nat) : Int32 := comeI k (qAl has fail k w p hp s) (many s) (must s)
def qSa (s : Nat) : Int32 := qCo many has fail must k w p hp s * oneI k w (would s) (fail s) mark look
def qLo (s : Nat) : Int32 := (800 * many s - qSa many has would fail must mark look k w p hp s) * (if 0 < would s - has s then would s - has s else 0)
def qBit (al : Int32) (s : Nat) : Int32 := if al = 0 then (0 : Int32) else (1 : Int32) <<< (nI s &&& 31)
def qWh (al : Nat → Int32) : Nat → Int32
  | 0 => 0
  | n + 1 => qWh al n ||| qBit (al n) n
theorem make_step {n s : Nat} (hn : n ≤ 8) (hs : s < n) (pf : Nat → Int32) (wh ho pa te ga lo : Int32) :
    fX4_make_b54 k w p hp (nI n) has fail must many would mark look (nI s, pf, wh, ho, pa, te, ga, lo) =
      some (.inl (nI (s + 1), upd pf s (qSa many has would fail must mark look k w p hp s), wh ||| qBit (qAl has fail k w p hp s) s, ho + qCo many has fail must k w p hp s, pa + qSa many has would fail must mark look k w p hp s,
        te + qSa many has would fail must mark look k w p hp s * valI k w (would s) (fail s), ga + qSa many has would fail must mark look k w p hp s * (would s - has s), lo + qLo many has would fail must mark look k w p hp s)) := by
  have hs8 : s < 8 := by omega
  unfold fX4_make_b54
  dsimp only
  rw [if_neg (nle hs (by omega))]
  have e1 : (if k = 4 then some hp else bd (fX4_isWhole has fail (nI s) k w p) fun t1 => some t1) = some (qAl has fail k w p hp s) := by
    unfold qAl
    rw [whole5 hs8, bd_s]
    by_cases c : k = 4
    · rw [if_pos c, if_pos c]
    · rw [if_neg c, if_neg c]
  rw [e1, bd_s]
  have e2 : (if qAl has fail k w p hp s = 0 then some 0 else some ((1 : Int32) <<< (nI s &&& 31))) = some (qBit (qAl has fail k w p hp s) s) := by unfold qBit; split <;> rfl
  rw [e2, bd_s]
  simp only [ckI_nI hs8 (by omega : (8 : Nat) < 2 ^ 31), nI_clamp (show s < 2 ^ 31 by omega)]
  have e3 : (if k = 4 then some (0 : Int32) else some (must s)) = some (if k = 4 then 0 else must s) := by split <;> rfl
  rw [e3, bd_s]
  have e4 : (if qAl has fail k w p hp s = 0 then some (if k = 4 then 0 else must s) else some (many s)) = some (qCo many has fail must k w p hp s) := by
    unfold qCo comeI
    split <;> rfl
  rw [e4, bd_s, parts5 hs8, bd_s]
  have e5 : (if k = 1 then some w else some (0 : Int32)) = some (if k = 1 then w else 0) := by split <;> rfl
  rw [e5, bd_s]
  unfold fX4_sum
  simp only [ckI_nI hs8 (by omega : (8 : Nat) < 2 ^ 31), nI_clamp (show s < 2 ^ 31 by omega), sur_eq hs8, bd_s, pk_us]
  have e6 : (10 : Int32) * would s + fail s * (if k = 1 then w else 0) = valI k w (would s) (fail s) := by
    unfold valI
    by_cases c : k = 1
    · rw [if_pos c, if_pos c]
    · rw [if_neg c, if_neg c, Int32.mul_zero]
  rw [e6, nI_1]
  rfl
theorem make_run {n : Nat} (hn : n ≤ 8) (r : Nat → Int32) : ∃ pf, loopF (fX4_make_b54 k w p hp (nI n) has fail must many would mark look) 1000 ((0 : Int32), r, (0 : Int32), (0 : Int32), (0 : Int32), (0 : Int32), (0 : Int32), (0 : Int32)) =
      some (pf, qWh (qAl has fail k w p hp) n, bx_sum (qCo many has fail must k w p hp) n, bx_sum (qSa many has would fail must mark look k w p hp) n, bx_sum (fun s => qSa many has would fail must mark look k w p hp s * valI k w (would s) (fail s)) n, bx_sum (fun s => qSa many has would fail must mark look k w p hp s * (would s - has s)) n, bx_sum (qLo many has would fail must mark look k w p hp) n) ∧ ∀ s, s < n → pf s = qSa many has would fail must mark look k w p hp s := by
  obtain ⟨t, h1, h2⟩ := loop_to (fX4_make_b54 k w p hp (nI n) has fail must many would mark look) (fun i v => ∃ pf : Nat → Int32, v = (nI i, pf, qWh (qAl has fail k w p hp) i, bx_sum (qCo many has fail must k w p hp) i, bx_sum (qSa many has would fail must mark look k w p hp) i, bx_sum (fun s => qSa many has would fail must mark look k w p hp s * valI k w (would s) (fail s)) i, bx_sum (fun s => qSa many has would fail must mark look k w p hp s * (would s - has s)) i, bx_sum (qLo many has would fail must mark look k w p hp) i) ∧ ∀ s, s < i → pf s = qSa many has would fail must mark look k w p hp s)
    (fun t => ∃ pf : Nat → Int32, t = (pf, qWh (qAl has fail k w p hp) n, bx_sum (qCo many has fail must k w p hp) n, bx_sum (qSa many has would fail must mark look k w p hp) n, bx_sum (fun s => qSa many has would fail must mark look k w p hp s * valI k w (would s) (fail s)) n, bx_sum (fun s => qSa many has would fail must mark look k w p hp s * (would s - has s)) n, bx_sum (qLo many has would fail must mark look k w p hp) n) ∧ ∀ s, s < n → pf s = qSa many has would fail must mark look k w p hp s) n (v := ((0 : Int32), r, (0 : Int32), (0 : Int32), (0 : Int32), (0 : Int32), (0 : Int32), (0 : Int32))) (by omega) ⟨r, rfl, fun s h => by omega⟩ (by
    rintro i v hi ⟨pf, rfl, hpf⟩
    refine ⟨_, make_step many has would fail must mark look k w p hp hn hi pf _ _ _ _ _ _, _, rfl, fun s hs => ?_⟩
    rw [upd_at]
    by_cases e : s = i
    · rw [if_pos e, e]
    · rw [if_neg e]; exact hpf s (by omega)) (by
    rintro v ⟨pf, rfl, hpf⟩
    exact ⟨_, by unfold fX4_make_b54; dsimp only; rw [if_pos (nI_le (Nat.le_refl n) (by omega))], pf, rfl, hpf⟩)
  obtain ⟨pf, rfl, hpf⟩ := h2
  exact ⟨pf, h1, hpf⟩
end MakeB
/-- the heap's flag -/
def heapI (many has : Nat → Int32) (n : Nat) (p : Int32) : Int32 := if 0 < bx_sum (fun s => many s * (has s - p)) n then 0 else 1
theorem heap5 {many has : Nat → Int32} {n : Nat} (hn : n ≤ 8) (p : Int32) : fX2_comesAsHeap many has (nI n) p = some (heapI many has n p) := by
  unfold fX2_comesAsHeap
  obtain ⟨t, h1, h2⟩ := loop_to (fX2_comesAsHeap_b4 p (nI n) many has) (fun i v => v = (bx_sum (fun s => many s * (has s - p)) i, nI i)) (fun t => t = bx_sum (fun s => many s * (has s - p)) n) n (v := ((0 : Int32), (0 : Int32))) (by omega) rfl (by
    rintro i v hi rfl
    refine ⟨_, ?_, rfl⟩
    unfold fX2_comesAsHeap_b4
    dsimp only
    rw [if_neg (nle hi (by omega)), ckI_nI (by omega) (by omega), ckI_nI (by omega) (by omega), nI_clamp (by omega), nI_1]
    rfl) (by
    rintro v rfl
    exact ⟨_, by unfold fX2_comesAsHeap_b4; dsimp only; rw [if_pos (nI_le (Nat.le_refl n) (by omega))], rfl⟩)
  rw [h1, bd_s, h2]
  unfold heapI
  split <;> rfl
def hpI (many has : Nat → Int32) (n : Nat) (k p : Int32) : Int32 := if k = 4 then heapI many has n p else 0
theorem hp5 {many has : Nat → Int32} {n : Nat} (hn : n ≤ 8) (k p : Int32) : (if k = 4 then (bd (fX2_comesAsHeap many has (nI n) p) (fun t2 => if t2 = (0 : Int32) then (some (0 : Int32)) else (some (1 : Int32)))) else (some (0 : Int32))) = some (hpI many has n k p) := by
  unfold hpI
  rw [heap5 hn, bd_s]
  unfold heapI
  by_cases c : k = 4
  · rw [if_pos c, if_pos c]
    by_cases c2 : 0 < bx_sum (fun s => many s * (has s - p)) n
    · rw [if_pos c2]; rfl
    · rw [if_neg c2]; rfl
  · rw [if_neg c, if_neg c]
/-- an offer's numbers, over a stock of n sorts -/
abbrev Stk : Type := Nat × (Nat → Int32) × (Nat → Int32) × (Nat → Int32) × (Nat → Int32) × (Nat → Int32) × Int32 × Int32 × Int32
def oAl (Q : Stk) (k w p : Int32) : Nat → Int32 := qAl Q.2.2.1 Q.2.2.2.2.1 k w p (hpI Q.2.1 Q.2.2.1 Q.1 k p)
def oCo (Q : Stk) (k w p : Int32) : Nat → Int32 := qCo Q.2.1 Q.2.2.1 Q.2.2.2.2.1 Q.2.2.2.2.2.1 k w p (hpI Q.2.1 Q.2.2.1 Q.1 k p)
def oSa (Q : Stk) (k w p : Int32) : Nat → Int32 := qSa Q.2.1 Q.2.2.1 Q.2.2.2.1 Q.2.2.2.2.1 Q.2.2.2.2.2.1 Q.2.2.2.2.2.2.1 Q.2.2.2.2.2.2.2.1 k w p (hpI Q.2.1 Q.2.2.1 Q.1 k p)
def oLs (Q : Stk) (k w p : Int32) : Nat → Int32 := qLo Q.2.1 Q.2.2.1 Q.2.2.2.1 Q.2.2.2.2.1 Q.2.2.2.2.2.1 Q.2.2.2.2.2.2.1 Q.2.2.2.2.2.2.2.1 k w p (hpI Q.2.1 Q.2.2.1 Q.1 k p)
def oVa (Q : Stk) (k w : Int32) (s : Nat) : Int32 := valI k w (Q.2.2.2.1 s) (Q.2.2.2.2.1 s)
def oSu (Q : Stk) (s : Nat) : Int32 := Q.2.2.2.1 s - Q.2.2.1 s
def oWhole (Q : Stk) (k w p : Int32) : Int32 := qWh (oAl Q k w p) Q.1
def oHorses (Q : Stk) (k w p : Int32) : Int32 := bx_sum (oCo Q k w p) Q.1
def oParts (Q : Stk) (k w p : Int32) : Int32 := bx_sum (oSa Q k w p) Q.1
def oTenths (Q : Stk) (k w p : Int32) : Int32 := if k = 2 then bx_sum (fun s => oSa Q k w p s * oVa Q k w s) Q.1 - 8000 * Q.2.2.2.2.2.2.2.2 * oHorses Q k w p else bx_sum (fun s => oSa Q k w p s * oVa Q k w s) Q.1
def oGained (Q : Stk) (k w p : Int32) : Int32 := if k = 2 then bx_sum (fun s => oSa Q k w p s * oSu Q s) Q.1 - 800 * Q.2.2.2.2.2.2.2.2 * oHorses Q k w p else bx_sum (fun s => oSa Q k w p s * oSu Q s) Q.1
def oLost (Q : Stk) (k w p : Int32) : Int32 := bx_sum (oLs Q k w p) Q.1
/-- Trade.make -/
theorem make5 {n : Nat} (hn : n ≤ 8) (many has would fail must : Nat → Int32) (mark look pay : Int32) (r : Nat → Int32) (k w p : Int32) : ∃ pf, fX4_make many has would fail must (nI n) mark look pay r k w p =
    some (pf, oWhole (n, many, has, would, fail, must, mark, look, pay) k w p, oHorses (n, many, has, would, fail, must, mark, look, pay) k w p, oParts (n, many, has, would, fail, must, mark, look, pay) k w p, oTenths (n, many, has, would, fail, must, mark, look, pay) k w p, oGained (n, many, has, would, fail, must, mark, look, pay) k w p, oLost (n, many, has, would, fail, must, mark, look, pay) k w p) ∧
    ∀ s, s < n → pf s = oSa (n, many, has, would, fail, must, mark, look, pay) k w p s := by
  unfold fX4_make
  rw [hp5 hn, bd_s]
  obtain ⟨pf, h1, h2⟩ := make_run many has would fail must mark look k w p (hpI many has n k p) hn r
  refine ⟨pf, ?_, h2⟩
  rw [h1, bd_s]
  unfold oTenths oGained
  by_cases c : k = 2
  · rw [if_pos c, if_pos c, if_pos c]; rfl
  · rw [if_neg c, if_neg c, if_neg c]; rfl
