section PureC
theorem wB (x a b : Int32) : bd (fX5_isWithin x a b) (fun t => ckB t (some t)) = fX5_isWithin x a b := by
  rcases isW_c x a b with ⟨-, -, e⟩ | ⟨-, e⟩ <;> rw [e] <;> rfl
theorem SS_upd0 {n j : Nat} {sorts many has would fail must : Nat → Int32} {v : Int32} (h : SS n sorts many has would fail must) (hj : j < n) (hb : ROne v (has j) (would j) (fail j) (must j)) : SS n (upd sorts (5 * j + 0) v) (upd many j v) has would fail must := by
  intro s hs
  obtain ⟨g0, g1, g2, g3, g4, g5⟩ := h s hs
  simp only [upd_at]
  by_cases e : s = j
  · subst e
    simp only [if_true]
    refine ⟨?_, ?_, ?_, ?_, ?_, hb⟩
    · first | trivial | rw [if_pos (by omega)]
    · rw [if_neg (by omega)]; exact g1
    · rw [if_neg (by omega)]; exact g2
    · rw [if_neg (by omega)]; exact g3
    · rw [if_neg (by omega)]; exact g4
  · simp only [if_neg e]
    refine ⟨?_, ?_, ?_, ?_, ?_, g5⟩
    · rw [if_neg (by omega)]; exact g0
    · rw [if_neg (by omega)]; exact g1
    · rw [if_neg (by omega)]; exact g2
    · rw [if_neg (by omega)]; exact g3
    · rw [if_neg (by omega)]; exact g4
theorem SS_upd1 {n j : Nat} {sorts many has would fail must : Nat → Int32} {v : Int32} (h : SS n sorts many has would fail must) (hj : j < n) (hb : ROne (many j) v (would j) (fail j) (must j)) : SS n (upd sorts (5 * j + 1) v) many (upd has j v) would fail must := by
  intro s hs
  obtain ⟨g0, g1, g2, g3, g4, g5⟩ := h s hs
  simp only [upd_at]
  by_cases e : s = j
  · subst e
    simp only [if_true]
    refine ⟨?_, ?_, ?_, ?_, ?_, hb⟩
    · rw [if_neg (by omega)]; exact g0
    · first | trivial | rw [if_pos (by omega)]
    · rw [if_neg (by omega)]; exact g2
    · rw [if_neg (by omega)]; exact g3
    · rw [if_neg (by omega)]; exact g4
  · simp only [if_neg e]
    refine ⟨?_, ?_, ?_, ?_, ?_, g5⟩
    · rw [if_neg (by omega)]; exact g0
    · rw [if_neg (by omega)]; exact g1
    · rw [if_neg (by omega)]; exact g2
    · rw [if_neg (by omega)]; exact g3
    · rw [if_neg (by omega)]; exact g4
theorem SS_upd2 {n j : Nat} {sorts many has would fail must : Nat → Int32} {v : Int32} (h : SS n sorts many has would fail must) (hj : j < n) (hb : ROne (many j) (has j) v (fail j) (must j)) : SS n (upd sorts (5 * j + 2) v) many has (upd would j v) fail must := by
  intro s hs
  obtain ⟨g0, g1, g2, g3, g4, g5⟩ := h s hs
  simp only [upd_at]
  by_cases e : s = j
  · subst e
    simp only [if_true]
    refine ⟨?_, ?_, ?_, ?_, ?_, hb⟩
    · rw [if_neg (by omega)]; exact g0
    · rw [if_neg (by omega)]; exact g1
    · first | trivial | rw [if_pos (by omega)]
    · rw [if_neg (by omega)]; exact g3
    · rw [if_neg (by omega)]; exact g4
  · simp only [if_neg e]
    refine ⟨?_, ?_, ?_, ?_, ?_, g5⟩
    · rw [if_neg (by omega)]; exact g0
    · rw [if_neg (by omega)]; exact g1
    · rw [if_neg (by omega)]; exact g2
    · rw [if_neg (by omega)]; exact g3
    · rw [if_neg (by omega)]; exact g4
theorem SS_upd3 {n j : Nat} {sorts many has would fail must : Nat → Int32} {v : Int32} (h : SS n sorts many has would fail must) (hj : j < n) (hb : ROne (many j) (has j) (would j) v (must j)) : SS n (upd sorts (5 * j + 3) v) many has would (upd fail j v) must := by
  intro s hs
  obtain ⟨g0, g1, g2, g3, g4, g5⟩ := h s hs
  simp only [upd_at]
  by_cases e : s = j
  · subst e
    simp only [if_true]
    refine ⟨?_, ?_, ?_, ?_, ?_, hb⟩
    · rw [if_neg (by omega)]; exact g0
    · rw [if_neg (by omega)]; exact g1
    · rw [if_neg (by omega)]; exact g2
    · first | trivial | rw [if_pos (by omega)]
    · rw [if_neg (by omega)]; exact g4
  · simp only [if_neg e]
    refine ⟨?_, ?_, ?_, ?_, ?_, g5⟩
    · rw [if_neg (by omega)]; exact g0
    · rw [if_neg (by omega)]; exact g1
    · rw [if_neg (by omega)]; exact g2
    · rw [if_neg (by omega)]; exact g3
    · rw [if_neg (by omega)]; exact g4
theorem SS_upd4 {n j : Nat} {sorts many has would fail must : Nat → Int32} {v : Int32} (h : SS n sorts many has would fail must) (hj : j < n) (hb : ROne (many j) (has j) (would j) (fail j) v) : SS n (upd sorts (5 * j + 4) v) many has would fail (upd must j v) := by
  intro s hs
  obtain ⟨g0, g1, g2, g3, g4, g5⟩ := h s hs
  simp only [upd_at]
  by_cases e : s = j
  · subst e
    simp only [if_true]
    refine ⟨?_, ?_, ?_, ?_, ?_, hb⟩
    · rw [if_neg (by omega)]; exact g0
    · rw [if_neg (by omega)]; exact g1
    · rw [if_neg (by omega)]; exact g2
    · rw [if_neg (by omega)]; exact g3
    · first | trivial | rw [if_pos (by omega)]
  · simp only [if_neg e]
    refine ⟨?_, ?_, ?_, ?_, ?_, g5⟩
    · rw [if_neg (by omega)]; exact g0
    · rw [if_neg (by omega)]; exact g1
    · rw [if_neg (by omega)]; exact g2
    · rw [if_neg (by omega)]; exact g3
    · rw [if_neg (by omega)]; exact g4
theorem allow0 {r0 r4 : Nat → Int32} {j : Nat} (hj : j < 8) (x : Int32) : fX2_allows r0 r4 (nI j) (0 : Int32) x = fX5_isWithin x (if (1 : Int32) < r4 j then r4 j else 1) 50 := by
  unfold fX2_allows
  rw [if_pos rfl, ckI_nI hj (by omega), nI_clamp (by omega), wB]
theorem allow1 {r0 r4 : Nat → Int32} {j : Nat} (x : Int32) : fX2_allows r0 r4 (nI j) (1 : Int32) x = fX5_isWithin x 0 99 := by
  unfold fX2_allows
  rw [if_neg (by decide), if_pos rfl, wB]
theorem allow2 {r0 r4 : Nat → Int32} {j : Nat} (x : Int32) : fX2_allows r0 r4 (nI j) (2 : Int32) x = fX5_isWithin x 0 99 := by
  unfold fX2_allows
  rw [if_neg (by decide), if_neg (by decide), if_pos rfl, wB]
theorem allow3 {r0 r4 : Nat → Int32} {j : Nat} (x : Int32) : fX2_allows r0 r4 (nI j) (3 : Int32) x = fX5_isWithin x 0 10 := by
  unfold fX2_allows
  rw [if_neg (by decide), if_neg (by decide), if_neg (by decide), if_pos rfl, wB]
theorem allow4 {r0 r4 : Nat → Int32} {j : Nat} (hj : j < 8) (x : Int32) : fX2_allows r0 r4 (nI j) (4 : Int32) x = fX5_isWithin x 0 (r0 j) := by
  unfold fX2_allows
  rw [if_neg (by decide), if_neg (by decide), if_neg (by decide), if_neg (by decide), ckI_nI hj (by omega), nI_clamp (by omega), wB]
end PureC
