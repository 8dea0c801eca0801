section LayA
def thB (n : Nat) (lo : Int32) (s : Nat) : Bool := decide (s < n) && !decide (nI s = lo)
theorem there6 {n s : Nat} (hn : n ≤ 8) (hs : s < 8) (lo : Int32) : fX6_isThere (nI n) lo (nI s) = some (if thB n lo s then 1 else 0) := by
  unfold fX6_isThere thB
  by_cases c : s < n
  · rw [if_neg (nle c (by omega))]
    by_cases c2 : nI s = lo
    · rw [if_pos c2]; simp [c2]
    · rw [if_neg c2]; simp [c, c2]
  · rw [if_pos (nI_le (by omega) (by omega))]; simp [c]
/-- a sum over those that are there -/
def tS (n : Nat) (lo : Int32) (f : Nat → Int32) : Int32 := bx_sum (fun s => if thB n lo s then f s else 0) 8
def tL (n : Nat) (lo : Int32) (f : Nat → Int64) : Int64 := lx_sum (fun s => if thB n lo s then f s else 0) 8
def heap6I (many has : Nat → Int32) (n : Nat) (lo p : Int32) : Int32 := if tS n lo many ≤ 0 then 0 else if p * tS n lo many < tS n lo (fun s => many s * has s) then 0 else 1
theorem heap6 {sorts many has would fail must : Nat → Int32} {n : Nat} (hn : n ≤ 8) (hs : SS n sorts many has would fail must) (lo p : Int32) : fX6_isHeap sorts (nI n) lo p = some (heap6I many has n lo p) := by
  unfold fX6_isHeap
  obtain ⟨t, h1, h2⟩ := loop_to (fX6_isHeap_b7 p (nI n) lo sorts) (fun i v => v = (bx_sum (fun s => if thB n lo s then many s * has s else 0) i, bx_sum (fun s => if thB n lo s then many s else 0) i, nI i)) (fun t => t = (tS n lo (fun s => many s * has s), tS n lo many)) 8 (v := ((0 : Int32), (0 : Int32), (0 : Int32))) (by omega) rfl (by
    rintro i v hi rfl
    refine ⟨_, ?_, rfl⟩
    have q : ¬ (8 : Int32) ≤ nI i := nle (n := 8) hi (by omega)
    unfold fX6_isHeap_b7
    dsimp only
    rw [if_neg q, there6 hn hi, bd_s]
    by_cases c : thB n lo i = true
    · have hin : i < n := by unfold thB at c; simp at c; exact c.1
      obtain ⟨g0, g1, -⟩ := hs i hin
      rw [if_pos c, if_neg (by decide), i0' hi, bd_s, i1' hi, bd_s, bd_s, bd_s, g0, g1, nI_1]
      show some (Sum.inl (_, _, nI (i + 1))) = some (Sum.inl (bx_sum _ i + (if thB n lo i then many i * has i else 0), bx_sum _ i + (if thB n lo i then many i else 0), nI (i + 1)))
      rw [if_pos c, if_pos c]
    · rw [if_neg c, if_pos rfl, bd_s, nI_1]
      show some (Sum.inl (_, _, nI (i + 1))) = some (Sum.inl (bx_sum _ i + (if thB n lo i then many i * has i else 0), bx_sum _ i + (if thB n lo i then many i else 0), nI (i + 1)))
      rw [if_neg c, if_neg c, Int32.add_zero, Int32.add_zero]) (by
    rintro v rfl
    exact ⟨_, by unfold fX6_isHeap_b7; dsimp only; rw [if_pos (show (8 : Int32) ≤ nI 8 by decide)]; rfl, rfl⟩)
  rw [h1, bd_s, h2]
  unfold heap6I
  dsimp only
  split
  · rfl
  · split <;> rfl
def hp6I (many has : Nat → Int32) (n : Nat) (lo k p : Int32) : Int32 := if k = 4 then heap6I many has n lo p else 0
theorem hp6 {sorts many has would fail must : Nat → Int32} {n : Nat} (hn : n ≤ 8) (hs : SS n sorts many has would fail must) (lo k p : Int32) : (if k = 4 then (bd (fX6_isHeap sorts (nI n) lo p) (fun t2 => if t2 = (0 : Int32) then (some (0 : Int32)) else (some (1 : Int32)))) else (some (0 : Int32))) = some (hp6I many has n lo k p) := by
  unfold hp6I
  rw [heap6 hn hs, bd_s]
  by_cases c : k = 4
  · rw [if_pos c, if_pos c]
    unfold heap6I
    split
    · rfl
    · split <;> rfl
  · rw [if_neg c, if_neg c]
end LayA
section LayB
variable (many has would fail must : Nat → Int32) (mark look k w p hp : Int32)
theorem lay_step {sorts rules : Nat → Int32} {n s : Nat} {lo : Int32} (hn : n ≤ 8) (hS : SS n sorts many has would fail must) (r0 : rules 0 = mark) (r1 : rules 1 = look) (hs : s < 8) (tu ga : Int64) (cm so : Nat → Int32) (wh ho pa : Int32) :
    ∃ cm', fX6_layOffer_b48 k w p hp (nI n) lo sorts rules (nI s, tu, ga, cm, so, wh, ho, pa) =
      some (.inl (nI (s + 1), tu + (if thB n lo s then (qSa many has would fail must mark look k w p hp s).toInt64 * (valI k w (would s) (fail s)).toInt64 else 0), ga + (if thB n lo s then (qSa many has would fail must mark look k w p hp s).toInt64 * (would s - has s).toInt64 else 0), cm',
        upd (upd so s 0) s (if thB n lo s then qSa many has would fail must mark look k w p hp s else 0), wh ||| qBit (if thB n lo s then qAl has fail k w p hp s else 0) s, ho + (if thB n lo s then qCo many has fail must k w p hp s else 0), pa + (if thB n lo s then qSa many has would fail must mark look k w p hp s else 0))) := by
  have q : ¬ (8 : Int32) ≤ nI s := nle (n := 8) hs (by omega)
  unfold fX6_layOffer_b48
  dsimp only
  simp only [if_neg q, ckI_nI hs (by omega : (8 : Nat) < 2 ^ 31), nI_clamp (show s < 2 ^ 31 by omega), there6 hn hs, bd_s]
  by_cases c : thB n lo s = true
  · have hin : s < n := by unfold thB at c; simp at c; exact c.1
    obtain ⟨g0, g1, g2, g3, g4, -⟩ := hS s hin
    simp only [if_pos c, one0, ite_false]
    have e1 : (if k = 4 then some hp else bd (fX6_comesWhole sorts k w p (nI s)) fun t2 => some t2) = some (qAl has fail k w p hp s) := by
      unfold qAl
      rw [whole6 hs g1 g3, bd_s]
      by_cases c : k = 4
      · rw [if_pos c, if_pos c]
      · rw [if_neg c, if_neg c]
    rw [e1, bd_s]
    have e2 : (if qAl has fail k w p hp s = 0 then some 0 else some ((1 : Int32) <<< (nI s &&& 31))) = some (qBit (qAl has fail k w p hp s) s) := by unfold qBit; split <;> rfl
    rw [e2, bd_s]
    have e4 : (if qAl has fail k w p hp s = 0 then (if k = 4 then some 0 else bd (fX6_its sorts (nI s) 4) fun t5 => some t5) else bd (fX6_its sorts (nI s) 0) fun t6 => some t6) = some (qCo many has fail must k w p hp s) := by
      unfold qCo comeI
      rw [i4' hs, i0' hs, bd_s, bd_s, g4, g0]
      split
      · split <;> rfl
      · rfl
    rw [e4, bd_s, parts6 hs g2 g3 r0 r1, bd_s, i2' hs, bd_s, g2]
    have e5 : (if k = 1 then bd (fX6_its sorts (nI s) 3) fun t10 => some (t10 * w) else some (0 : Int32)) = some (if k = 1 then fail s * w else 0) := by
      rw [i3' hs, bd_s, g3]; split <;> rfl
    rw [e5, bd_s, bd_s, i1' hs, bd_s, g1]
    simp only [pk_us, bd_s, nI_1]
    exact ⟨_, rfl⟩
  · simp only [if_neg c, ite_true, bd_s, nI_1, Int64.add_zero, Int32.add_zero]
    refine ⟨upd cm s 0, ?_⟩
    have e1 : qBit 0 s = 0 := rfl
    have e2 : upd (upd so s 0) s 0 = upd so s 0 := fa_upd_twice so s 0 0
    rw [e1, Int32.or_zero, e2]
theorem lay_run {sorts rules : Nat → Int32} {n : Nat} {lo : Int32} (hn : n ≤ 8) (hS : SS n sorts many has would fail must) (r0 : rules 0 = mark) (r1 : rules 1 = look) (c0 s0 : Nat → Int32) :
    ∃ cm so, loopF (fX6_layOffer_b48 k w p hp (nI n) lo sorts rules) 1000 ((0 : Int32), (0 : Int64), (0 : Int64), c0, s0, (0 : Int32), (0 : Int32), (0 : Int32)) =
      some (tL n lo (fun s => (qSa many has would fail must mark look k w p hp s).toInt64 * (valI k w (would s) (fail s)).toInt64), tL n lo (fun s => (qSa many has would fail must mark look k w p hp s).toInt64 * (would s - has s).toInt64), cm, so, qWh (fun s => if thB n lo s then qAl has fail k w p hp s else 0) 8, tS n lo (qCo many has fail must k w p hp), tS n lo (qSa many has would fail must mark look k w p hp)) ∧
      ∀ s, s < 8 → so s = if thB n lo s then qSa many has would fail must mark look k w p hp s else 0 := by
  obtain ⟨t, h1, h2⟩ := loop_to (fX6_layOffer_b48 k w p hp (nI n) lo sorts rules) (fun i v => ∃ cm so : Nat → Int32, v = (nI i, lx_sum (fun s => if thB n lo s then (qSa many has would fail must mark look k w p hp s).toInt64 * (valI k w (would s) (fail s)).toInt64 else 0) i, lx_sum (fun s => if thB n lo s then (qSa many has would fail must mark look k w p hp s).toInt64 * (would s - has s).toInt64 else 0) i, cm, so, qWh (fun s => if thB n lo s then qAl has fail k w p hp s else 0) i, bx_sum (fun s => if thB n lo s then qCo many has fail must k w p hp s else 0) i, bx_sum (fun s => if thB n lo s then qSa many has would fail must mark look k w p hp s else 0) i) ∧ ∀ s, s < i → so s = if thB n lo s then qSa many has would fail must mark look k w p hp s else 0)
    (fun t => ∃ cm so : Nat → Int32, t = (tL n lo (fun s => (qSa many has would fail must mark look k w p hp s).toInt64 * (valI k w (would s) (fail s)).toInt64), tL n lo (fun s => (qSa many has would fail must mark look k w p hp s).toInt64 * (would s - has s).toInt64), cm, so, qWh (fun s => if thB n lo s then qAl has fail k w p hp s else 0) 8, tS n lo (qCo many has fail must k w p hp), tS n lo (qSa many has would fail must mark look k w p hp)) ∧ ∀ s, s < 8 → so s = if thB n lo s then qSa many has would fail must mark look k w p hp s else 0) 8 (v := ((0 : Int32), (0 : Int64), (0 : Int64), c0, s0, (0 : Int32), (0 : Int32), (0 : Int32))) (by omega) ⟨c0, s0, rfl, fun s h => by omega⟩ (by
    rintro i v hi ⟨cm, so, rfl, hso⟩
    obtain ⟨cm', e⟩ := lay_step many has would fail must mark look k w p hp (lo := lo) hn hS r0 r1 hi _ _ cm so _ _ _
    refine ⟨_, e, cm', _, rfl, fun s hs => ?_⟩
    rw [upd_at, upd_at]
    by_cases e : s = i
    · rw [if_pos e, e]
    · rw [if_neg e, if_neg e]; exact hso s (by omega)) (by
    rintro v ⟨cm, so, rfl, hso⟩
    exact ⟨_, by unfold fX6_layOffer_b48; dsimp only; rw [if_pos (show (8 : Int32) ≤ nI 8 by decide)]; rfl, cm, so, rfl, hso⟩)
  obtain ⟨cm, so, rfl, hso⟩ := h2
  exact ⟨cm, so, h1, hso⟩
end LayB
