section BestA
/-- the best price so far, and its gain -/
def bp (Q : Stk) (k w : Int32) : Nat → Int32 × Int32
  | 0 => (-4, 0)
  | i + 1 => if rB Q k w (nI i) then (if (bp Q k w i).1 = -4 then (nI i, oGained Q k w (nI i)) else if oGained Q k w (nI i) ≤ (bp Q k w i).2 then bp Q k w i else (nI i, oGained Q k w (nI i))) else bp Q k w i
theorem nI_m4 (i : Nat) (h : i < 2 ^ 31) : ¬ nI i = (-4 : Int32) := by
  intro q
  have h1 := nI_toInt h
  rw [q] at h1
  have h2 : (-4 : Int32).toInt = -4 := rfl
  omega
theorem bp_spec (Q : Stk) (k w : Int32) : ∀ i, i ≤ 100 → ((bp Q k w i).1 = -4 ∧ (bp Q k w i).2 = 0) ∨ ∃ j, j < i ∧ (bp Q k w i).1 = nI j ∧ (bp Q k w i).2 = oGained Q k w (nI j)
  | 0, _ => Or.inl ⟨rfl, rfl⟩
  | i + 1, hi => by
    have ih := bp_spec Q k w i (by omega)
    have up : (((bp Q k w i).1 = -4 ∧ (bp Q k w i).2 = 0) ∨ ∃ j, j < i + 1 ∧ (bp Q k w i).1 = nI j ∧ (bp Q k w i).2 = oGained Q k w (nI j)) := by
      rcases ih with h | ⟨j, a, b, c⟩
      · exact Or.inl h
      · exact Or.inr ⟨j, by omega, b, c⟩
    rw [bp]
    split
    · split
      · exact Or.inr ⟨i, by omega, rfl, rfl⟩
      · split
        · exact up
        · exact Or.inr ⟨i, by omega, rfl, rfl⟩
    · exact up
theorem best5 {n : Nat} {many has would fail must : Nat → Int32} {mark look pay : Int32} (hB : SB (n, many, has, would, fail, must, mark, look, pay)) (r : Nat → Int32) (x1 x2 x3 x4 x5 x6 : Int32) {k w : Int32} (hk : VO k w) :
    ∃ pf y1 y2 y3 y4 y5 y6, fX5_bestPrice many has would fail must (nI n) mark look pay r x1 x2 x3 x4 x5 x6 k w = some ((bp (n, many, has, would, fail, must, mark, look, pay) k w 100).1, pf, y1, y2, y3, y4, y5, y6) := by
  have hn : n ≤ 8 := hB.1
  unfold fX5_bestPrice
  obtain ⟨t, h1, h2⟩ := loop_to (fX5_bestPrice_b10 k w many has would fail must (nI n) mark look pay) (fun i v => v.1 = (bp (n, many, has, would, fail, must, mark, look, pay) k w i).1 ∧ v.2.1 = (bp (n, many, has, would, fail, must, mark, look, pay) k w i).2 ∧ v.2.2.1 = nI i) (fun t => t.1 = (bp (n, many, has, would, fail, must, mark, look, pay) k w 100).1) 100 (v := ((-4 : Int32), (0 : Int32), (0 : Int32), r, x1, x2, x3, x4, x5, x6)) (by omega) ⟨rfl, rfl, rfl⟩ (by
    rintro i ⟨b1, b2, b3, y1, y2, y3, y4, y5, y6, y7⟩ hi ⟨q1, q2, q3⟩
    dsimp only at q1 q2 q3
    subst q3
    have hp := vp_nI hi
    have hc : ¬ (100 : Int32) ≤ nI i := nle (n := 100) hi (by omega)
    obtain ⟨pf, g1, -⟩ := make5 hn many has would fail must mark look pay y1 k w (nI i)
    unfold fX5_bestPrice_b10
    dsimp only
    rw [if_neg hc, g1, bd_s]
    dsimp only
    rw [holds5 hB hk hp, bd_s, nI_1]
    generalize hQ : ((n, many, has, would, fail, must, mark, look, pay) : Stk) = Q at q1 q2 ⊢
    by_cases c : rB Q k w (nI i) = true
    · simp only [if_pos c, one0, ite_false]
      by_cases d : b1 = -4
      · simp only [if_pos d, bd_s]
        refine ⟨_, rfl, ?_, ?_, rfl⟩ <;> (dsimp only; rw [bp, if_pos c, if_pos (by rw [← q1]; exact d)])
      · simp only [if_neg d]
        by_cases f : oGained Q k w (nI i) ≤ b2
        · simp only [if_pos f, bd_s]
          refine ⟨_, rfl, ?_, ?_, rfl⟩ <;> (dsimp only; rw [bp, if_pos c, if_neg (by rw [← q1]; exact d), if_pos (by rw [← q2]; exact f)]) <;> assumption
        · simp only [if_neg f, bd_s]
          refine ⟨_, rfl, ?_, ?_, rfl⟩ <;> (dsimp only; rw [bp, if_pos c, if_neg (by rw [← q1]; exact d), if_neg (by rw [← q2]; exact f)])
    · simp only [if_neg c, ite_true, bd_s]
      refine ⟨_, rfl, ?_, ?_, rfl⟩ <;> (dsimp only; rw [bp, if_neg c]) <;> assumption) (by
    rintro ⟨b1, b2, b3, y1, y2, y3, y4, y5, y6, y7⟩ ⟨q1, q2, q3⟩
    dsimp only at q1 q2 q3
    subst q3
    exact ⟨_, by unfold fX5_bestPrice_b10; dsimp only; rw [if_pos (show (100 : Int32) ≤ nI 100 by decide)], q1⟩)
  obtain ⟨t1, pf, y1, y2, y3, y4, y5, y6⟩ := t
  dsimp only at h2
  rw [h1, bd_s]
  exact ⟨pf, y1, y2, y3, y4, y5, y6, by dsimp only; rw [h2]⟩
/-- what layBest needs of doesRest -/
def RestsAs (sorts rules : Nat → Int32) (n : Nat) (lo : Int32) (Q : Stk) (k w : Int32) : Prop := ∀ (c0 s0 : Nat → Int32) (p : Int32), VP p → ∃ tu td gl cm so wh ho, fX6_doesRest sorts rules c0 s0 (nI n) lo k w p = some (if rB Q k w p then 1 else 0, tu, td, gl, cm, so, wh, ho, oParts Q k w p) ∧ gl.toInt = (oGained Q k w p).toInt
theorem best6 {n : Nat} {sorts rules : Nat → Int32} {lo : Int32} {Q : Stk} {k w : Int32} (hD : RestsAs sorts rules n lo Q k w) (c0 s0 : Nat → Int32) (g1 g2 g3 : Int64) (x1 x2 x3 : Int32) :
    ∃ u1 u2 u3 u4 cm so z1 z2 z3, fX6_layBest g1 g2 g3 sorts rules c0 s0 (nI n) lo x1 x2 x3 k w = some (if (bp Q k w 100).1 = -4 then 0 else 1, u1, u2, u3, u4, cm, so, z1, z2, z3, (bp Q k w 100).1) ∧ u4.toInt = (bp Q k w 100).2.toInt := by
  unfold fX6_layBest
  obtain ⟨t, h1, h2⟩ := loop_to (fX6_layBest_b13 k w sorts rules (nI n) lo) (fun i v => v.1 = nI i ∧ v.2.2.2.2.1.toInt = (bp Q k w i).2.toInt ∧ v.2.2.2.2.2.2.2.2.2.2 = (bp Q k w i).1) (fun t => t.2.2.2.1.toInt = (bp Q k w 100).2.toInt ∧ t.2.2.2.2.2.2.2.2.2 = (bp Q k w 100).1) 100 (v := ((0 : Int32), g1, g2, g3, (0 : Int64), c0, s0, x1, x2, x3, (-4 : Int32))) (by omega) ⟨rfl, rfl, rfl⟩ (by
    rintro i ⟨p1, a1, a2, a3, a4, a5, a6, a7, a8, a9, a10⟩ hi ⟨q1, q2, q3⟩
    dsimp only at q1 q2 q3
    subst q1
    have hp := vp_nI hi
    have hc : ¬ (100 : Int32) ≤ nI i := nle (n := 100) hi (by omega)
    obtain ⟨tu, td, gl, cm, so, wh, ho, e1, e2⟩ := hD a5 a6 (nI i) hp
    unfold fX6_layBest_b13
    dsimp only
    rw [if_neg hc, e1, bd_s, nI_1]
    dsimp only
    by_cases c : rB Q k w (nI i) = true
    · simp only [if_pos c, one0, ite_false]
      by_cases d : a10 = -4
      · simp only [if_pos d, bd_s]
        refine ⟨_, rfl, rfl, ?_, ?_⟩ <;> (dsimp only; rw [bp, if_pos c, if_pos (by rw [← q3]; exact d)])
        exact e2
      · simp only [if_neg d]
        have ec : lg_cmp gl a4 ≤ 0 ↔ oGained Q k w (nI i) ≤ (bp Q k w i).2 := by
          have z := cmp_gt gl a4
          rw [fa_le]
          have y : (0 : Int32).toInt = 0 := rfl
          rw [fa_lt, y, fa_lt64, e2, q2] at z
          rw [fa_le, y]
          omega
        by_cases f : lg_cmp gl a4 ≤ 0
        · simp only [if_pos f, bd_s]
          refine ⟨_, rfl, rfl, ?_, ?_⟩ <;> (dsimp only; rw [bp, if_pos c, if_neg (by rw [← q3]; exact d), if_pos (ec.mp f)]) <;> assumption
        · simp only [if_neg f, bd_s]
          refine ⟨_, rfl, rfl, ?_, ?_⟩ <;> (dsimp only; rw [bp, if_pos c, if_neg (by rw [← q3]; exact d), if_neg (fun q => f (ec.mpr q))])
          exact e2
    · simp only [if_neg c, ite_true, bd_s]
      refine ⟨_, rfl, rfl, ?_, ?_⟩ <;> (dsimp only; rw [bp, if_neg c]) <;> assumption) (by
    rintro ⟨p1, a1, a2, a3, a4, a5, a6, a7, a8, a9, a10⟩ ⟨q1, q2, q3⟩
    dsimp only at q1 q2 q3
    subst q1
    exact ⟨_, by unfold fX6_layBest_b13; dsimp only; rw [if_pos (show (100 : Int32) ≤ nI 100 by decide)], q2, q3⟩)
  obtain ⟨u1, u2, u3, u4, cm, so, z1, z2, z3, z4⟩ := t
  dsimp only at h2
  obtain ⟨e1, e2⟩ := h2
  rw [h1, bd_s]
  dsimp only
  rw [e2]
  by_cases c : (bp Q k w 100).1 = -4
  · rw [if_pos c, if_pos c]; exact ⟨_, _, _, _, _, _, _, _, _, rfl, e1⟩
  · rw [if_neg c, if_neg c]; exact ⟨_, _, _, _, _, _, _, _, _, rfl, e1⟩
theorem rests_as {n : Nat} {sorts rules many has would fail must : Nat → Int32} {mark look pay : Int32} (hS : SS n sorts many has would fail must) (hB : SB (n, many, has, would, fail, must, mark, look, pay)) (r0 : rules 0 = mark) (r1 : rules 1 = look) (r2 : rules 2 = pay) {k w : Int32} (hk : VO k w) : RestsAs sorts rules n (-4) (n, many, has, would, fail, must, mark, look, pay) k w := by
  intro c0 s0 p hp
  obtain ⟨tu, td, gl, cm, so, h1, h2, h3, h4, h5⟩ := rest6 hS hB r0 r1 r2 c0 s0 hk hp
  exact ⟨tu, td, gl, cm, so, _, _, h1, h4⟩
end BestA
