section FallE
theorem fall5 {n : Nat} {many has would fail must : Nat → Int32} {mark look pay : Int32} (hB : SB (n, many, has, would, fail, must, mark, look, pay)) (r : Nat → Int32) (x1 x2 x3 x4 x5 x6 : Int32) {k w p a4 : Int32} (hk : VO k w) {L : Nat} (hL : L ≤ 99) (h1 : ∀ i, i < L → ¬ stp (n, many, has, would, fail, must, mark, look, pay) k w (pr (n, many, has, would, fail, must, mark, look, pay) k w p i)) (h2 : stp (n, many, has, would, fail, must, mark, look, pay) k w (pr (n, many, has, would, fail, must, mark, look, pay) k w p L)) (h3 : ∀ i, i ≤ L → VP (pr (n, many, has, would, fail, must, mark, look, pay) k w p i)) :
    ∃ t, loopF (fX5_fall_b60 k w a4 many has would fail must (nI n) mark look pay) 1000 (p, (0 : Int32), (0 : Int32), r, x1, x2, x3, x4, x5, x6) = some t ∧
      ((∃ z j, t = .inl z ∧ j ≤ L ∧ a4 = 10 + nI j ∧ z.1 = pr (n, many, has, would, fail, must, mark, look, pay) k w p j) ∨
       (∃ e, t = .inr e ∧ (∀ j, j ≤ L → ¬ a4 = 10 + nI j) ∧ e.1 = pr (n, many, has, would, fail, must, mark, look, pay) k w p L ∧ e.2.1 = nI L ∧ e.2.2.2.2.2.1 = oParts (n, many, has, would, fail, must, mark, look, pay) k w (pr (n, many, has, would, fail, must, mark, look, pay) k w p L) ∧ e.2.2.2.2.2.2.1 = oTenths (n, many, has, would, fail, must, mark, look, pay) k w (pr (n, many, has, would, fail, must, mark, look, pay) k w p L))) := by
  have hn : n ≤ 8 := hB.1
  refine loop_ot (fX5_fall_b60 k w a4 many has would fail must (nI n) mark look pay) (fun i v => v.1 = pr (n, many, has, would, fail, must, mark, look, pay) k w p i ∧ v.2.1 = nI i ∧ v.2.2.1 = nI i ∧ ∀ j, j < i → ¬ a4 = 10 + nI j) _ L (by omega) ⟨rfl, rfl, rfl, fun j h => by omega⟩ ?_ ?_
  · rintro i ⟨b1, b2, b3, y1, y2, y3, y4, y5, y6, y7⟩ hi ⟨q1, q2, q3, q4⟩
    dsimp only at q1 q2 q3
    subst q1; subst q2; subst q3
    have hc : ¬ (100 : Int32) ≤ nI i := nle (n := 100) (by omega) (by omega)
    by_cases c : a4 = 10 + nI i
    · refine Or.inr ⟨.inl (pr (n, many, has, would, fail, must, mark, look, pay) k w p i, y1, y2, y3, y4, y5, y6, y7), ?_, Or.inl ⟨(pr (n, many, has, would, fail, must, mark, look, pay) k w p i, y1, y2, y3, y4, y5, y6, y7), i, rfl, by omega, c, rfl⟩⟩
      unfold fX5_fall_b60
      dsimp only
      rw [if_neg hc, if_pos c]
    · refine Or.inl ?_
      obtain ⟨pf, g1, -⟩ := make5 hn many has would fail must mark look pay y1 k w (pr (n, many, has, would, fail, must, mark, look, pay) k w p i)
      obtain ⟨-, g2⟩ := behind hB hk (h3 i (by omega))
      obtain ⟨g3, g4⟩ := g2 (h1 i hi)
      unfold fX5_fall_b60
      dsimp only
      rw [if_neg hc, if_neg c, g1, bd_s]
      dsimp only
      rw [g4, bd_s, if_neg g3]
      refine ⟨_, rfl, ?_⟩
      refine ⟨rfl, nI_1 i, nI_1 i, fun j hj => ?_⟩
      by_cases d : j = i
      · subst d; exact c
      · exact q4 j (by omega)
  · rintro ⟨b1, b2, b3, y1, y2, y3, y4, y5, y6, y7⟩ ⟨q1, q2, q3, q4⟩
    dsimp only at q1 q2 q3
    subst q1; subst q2; subst q3
    have hc : ¬ (100 : Int32) ≤ nI L := nle (n := 100) (by omega) (by omega)
    by_cases c : a4 = 10 + nI L
    · refine ⟨.inl (pr (n, many, has, would, fail, must, mark, look, pay) k w p L, y1, y2, y3, y4, y5, y6, y7), ?_, Or.inl ⟨(pr (n, many, has, would, fail, must, mark, look, pay) k w p L, y1, y2, y3, y4, y5, y6, y7), L, rfl, by omega, c, rfl⟩⟩
      unfold fX5_fall_b60
      dsimp only
      rw [if_neg hc, if_pos c]
    · obtain ⟨pf, g1, -⟩ := make5 hn many has would fail must mark look pay y1 k w (pr (n, many, has, would, fail, must, mark, look, pay) k w p L)
      obtain ⟨g2, -⟩ := behind hB hk (h3 L (by omega))
      have g4 := g2 h2
      unfold fX5_fall_b60
      dsimp only
      rw [if_neg hc, if_neg c, g1, bd_s]
      dsimp only
      rw [g4, bd_s, if_pos rfl]
      refine ⟨_, rfl, Or.inr ⟨_, rfl, fun j hj => ?_, rfl, rfl, rfl, rfl⟩⟩
      by_cases d : j = L
      · subst d; exact c
      · exact q4 j (by omega)
/-- what the reference knows at a step -/
def fSt (Q : Stk) (k w p a4 : Int32) (i : Nat) (v : Int32 × Int32 × Int32 × Int32 × Int64 × Int64 × Int64 × (Nat → Int32) × (Nat → Int32) × Int32 × Int32 × Int32) : Prop :=
  v.1 = pr Q k w p i ∧ v.2.1 = nI i ∧ (∀ j, j ≤ i → a4 = 10 + nI j → v.2.2.1 = pr Q k w p j) ∧ ((∀ j, j ≤ i → ¬ a4 = 10 + nI j) → v.2.2.1 = -4) ∧ v.2.2.2.2.1.toInt = (oTenths Q k w (pr Q k w p i)).toInt ∧ v.2.2.2.2.2.1.toInt = 10 * (oParts Q k w (pr Q k w p i)).toInt ∧ v.2.2.2.2.2.2.2.2.2.2.2 = oParts Q k w (pr Q k w p i)
def gof (Q : Stk) (k w p : Int32) : Int32 := if rB Q k w p = true then 0 else if oParts Q k w p ≤ 0 then 0 else 1
theorem goesI {Q : Stk} {k w p : Int32} : (if (if rB Q k w p = true then (1 : Int32) else 0) = 0 then (if oParts Q k w p ≤ 0 then some (0 : Int32) else some 1) else some 0) = some (gof Q k w p) := by
  unfold gof
  by_cases r : rB Q k w p = true
  · simp only [if_pos r, one0, ite_false]
  · simp only [if_neg r, ite_true]
    split <;> rfl
theorem nI_sub {a4 : Int32} {i : Nat} : nI i = a4 - 10 ↔ a4 = 10 + nI i := by
  constructor
  · intro h
    rw [h, Int32.add_comm, Int32.sub_add_cancel]
  · intro h
    rw [h, Int32.add_comm, Int32.add_sub_cancel]
theorem ten_inj {i j : Nat} (hi : i ≤ 1000) (hj : j ≤ 1000) {a4 : Int32} (h1 : a4 = 10 + nI i) (h2 : a4 = 10 + nI j) : i = j := by
  have h3 : nI i = nI j := by rw [← nI_sub] at h1 h2; rw [h1, h2]
  have e1 := nI_toInt (n := i) (by omega)
  have e2 := nI_toInt (n := j) (by omega)
  rw [h3] at e1
  omega
theorem fall6 {n : Nat} {sorts rules many has would fail must : Nat → Int32} {mark look pay : Int32} (hS : SS n sorts many has would fail must) (hB : SB (n, many, has, would, fail, must, mark, look, pay)) (r0 : rules 0 = mark) (r1 : rules 1 = look) (r2 : rules 2 = pay) {k w p a4 : Int32} (hk : VO k w) {L : Nat} (hL : L ≤ 99) (h1 : ∀ i, i < L → ¬ stp (n, many, has, would, fail, must, mark, look, pay) k w (pr (n, many, has, would, fail, must, mark, look, pay) k w p i)) (h2 : stp (n, many, has, would, fail, must, mark, look, pay) k w (pr (n, many, has, would, fail, must, mark, look, pay) k w p L)) (h3 : ∀ i, i ≤ L → VP (pr (n, many, has, would, fail, must, mark, look, pay) k w p i))
    {v : Int32 × Int32 × Int32 × Int32 × Int64 × Int64 × Int64 × (Nat → Int32) × (Nat → Int32) × Int32 × Int32 × Int32} (hv : fSt (n, many, has, would, fail, must, mark, look, pay) k w p a4 0 v) (hg : v.2.2.2.1 = gof (n, many, has, would, fail, must, mark, look, pay) k w p) :
    ∃ t, loopF (fX6_fall_b89 k w a4 sorts rules (nI n) (-4)) 1000 v = some t ∧ fSt (n, many, has, would, fail, must, mark, look, pay) k w p a4 L (t.1, t.2.1, t.2.2.1, 0, t.2.2.2) := by
  generalize hQ : ((n, many, has, would, fail, must, mark, look, pay) : Stk) = Q at *
  refine loop_ot (fX6_fall_b89 k w a4 sorts rules (nI n) (-4)) (fun i v => (i ≤ L ∧ fSt Q k w p a4 i v ∧ v.2.2.2.1 = gof Q k w (pr Q k w p i)) ∨ (fSt Q k w p a4 L v ∧ v.2.2.2.1 = 0)) _ (L + 1) (by omega) (Or.inl ⟨by omega, hv, hg⟩) ?_ ?_
  · rintro i ⟨b1, b2, b3, b4, tu, td, gl, c0, s0, wh, ho, pa⟩ hi hh
    rcases hh with ⟨hi2, ⟨q1, q2, q3, q4, q5, q6, q7⟩, q8⟩ | ⟨hh, q8⟩
    · dsimp only at q1 q2 q3 q4 q5 q6 q7 q8
      subst q1; subst q2; subst q7
      have hp := h3 i hi2
      have y0 : (0 : Int32).toInt = 0 := rfl
      by_cases c : b4 = 0
      · refine Or.inr ?_
        unfold fX6_fall_b89
        dsimp only
        rw [if_pos c]
        have hs : stp Q k w (pr Q k w p i) := by
          rw [c] at q8
          unfold gof at q8
          by_cases z1 : rB Q k w (pr Q k w p i) = true
          · exact Or.inr (Or.inl z1)
          · rw [if_neg z1] at q8
            by_cases z2 : oParts Q k w (pr Q k w p i) ≤ 0
            · rw [fa_le, y0] at z2; exact Or.inl z2
            · rw [if_neg z2] at q8; exact absurd q8 (by decide)
        have hiL : i = L := by
          rcases Nat.lt_or_ge i L with z | z
          · exact absurd hs (h1 i z)
          · omega
        subst hiL
        exact ⟨_, rfl, rfl, rfl, q3, q4, q5, q6, rfl⟩
      · have d1 : ¬ rB Q k w (pr Q k w p i) = true := by
          intro z; unfold gof at q8; rw [if_pos z] at q8; exact c q8
        have d2 : 0 < (oParts Q k w (pr Q k w p i)).toInt := by
          rcases Int.lt_or_le 0 (oParts Q k w (pr Q k w p i)).toInt with z | z
          · exact z
          · unfold gof at q8; rw [if_neg d1, if_pos (by rw [fa_le, y0]; exact z)] at q8; exact absurd q8 c
        have dtd : ¬ td = 0 := by intro z; rw [z] at q6; have : (0 : Int64).toInt = 0 := rfl; omega
        have y0l : (0 : Int64).toInt = 0 := rfl
        have dcmp : 0 ≤ lg_cmp tu 0 ↔ 0 ≤ tu.toInt := by
          have z := cmp_lt tu 0
          rw [fa_lt, y0, fa_lt64, y0l] at z
          rw [fa_le, y0]
          omega
        have ediv : (if 0 ≤ lg_cmp tu (0 : Int64) then ckL td (some (tu / td).toInt32) else some (0 : Int32)) = some (if 0 ≤ tu.toInt then (tu / td).toInt32 else 0) := by
          by_cases z : 0 ≤ lg_cmp tu 0
          · rw [if_pos z, if_pos (dcmp.mp z), ckL_ok dtd]
          · rw [if_neg z, if_neg (fun q => z (dcmp.mpr q))]
        refine Or.inl ?_
        unfold fX6_fall_b89
        dsimp only
        rw [if_neg c, ediv, bd_s]
        by_cases e : pr Q k w p i ≤ 0
        · rw [if_pos e, bd_s, if_pos rfl, bd_s]
          rw [fa_le, y0] at e
          have hs : stp Q k w (pr Q k w p i) := Or.inr (Or.inr (by have := hp.1; omega))
          have hiL : i = L := by
            rcases Nat.lt_or_ge i L with z | z
            · exact absurd hs (h1 i z)
            · omega
          subst hiL
          refine ⟨_, rfl, Or.inr ?_⟩
          exact ⟨⟨rfl, rfl, q3, q4, q5, q6, rfl⟩, rfl⟩
        · rw [if_neg e, bd_s, if_neg (by decide)]
          rw [fa_le, y0] at e
          have hs : ¬ stp Q k w (pr Q k w p i) := by
            rintro (z | z | z)
            · omega
            · exact d1 z
            · omega
          have hiL : i < L := by
            rcases Nat.lt_or_ge i L with z | z
            · exact z
            · rw [show i = L by omega] at hs; exact absurd h2 hs
          obtain ⟨n1, n2, n3⟩ := nx_i d2 hp d1 (by omega)
          have en : (if 0 ≤ tu.toInt then (tu / td).toInt32 else (0 : Int32)) = pr Q k w p (i + 1) := by
            rw [pr]
            by_cases z : 0 ≤ tu.toInt
            · rw [if_pos z]
              refine toI32 ?_
              rw [n1, ← q5, if_pos z, div64 (by omega), Int.tdiv_eq_ediv_of_nonneg z, q6]
            · rw [if_neg z]
              refine eq32 ?_
              rw [n1, ← q5, if_neg z]; rfl
          rw [en, nI_1]
          have hD := rest6 hS (by rw [hQ]; exact hB) r0 r1 r2 c0 s0 hk (h3 (i + 1) (by omega))
          rw [hQ] at hD
          obtain ⟨tu', td', gl', cm', so', g1, g2, g3, g4, g5⟩ := hD
          have e3 : (if nI (i + 1) = a4 - 10 then some (pr Q k w p (i + 1)) else some b3) = some (if nI (i + 1) = a4 - 10 then pr Q k w p (i + 1) else b3) := by split <;> rfl
          rw [e3, bd_s, g1, bd_s]
          dsimp only
          rw [goesI, bd_s, bd_s]
          refine ⟨_, rfl, Or.inl ⟨by omega, ⟨rfl, rfl, ?_, ?_, g2, g3, rfl⟩, rfl⟩⟩
          · intro j hj z
            dsimp only
            by_cases d : j = i + 1
            · rw [if_pos (nI_sub.mpr (by rw [← d]; exact z)), d]
            · rw [if_neg (fun q => d (ten_inj (by omega) (by omega) z (nI_sub.mp q)))]
              exact q3 j (by omega) z
          · intro z
            dsimp only
            rw [if_neg (fun q => z (i + 1) (by omega) (nI_sub.mp q))]
            exact q4 (fun j hj => z j (by omega))
    · refine Or.inr ?_
      dsimp only at q8
      unfold fX6_fall_b89
      dsimp only
      rw [if_pos q8]
      exact ⟨_, rfl, hh⟩
  · rintro ⟨b1, b2, b3, b4, tu, td, gl, c0, s0, wh, ho, pa⟩ hh
    rcases hh with ⟨hi2, -⟩ | ⟨hh, q8⟩
    · omega
    · dsimp only at q8
      unfold fX6_fall_b89
      dsimp only
      rw [if_pos q8]
      exact ⟨_, rfl, hh⟩
end FallE
