section EdgeK
abbrev eQ (n : Nat) (many has would fail must : Nat → Int32) (mark look pay : Int32) (s : Nat) (v : Int32) : Stk := (n, many, has, upd would s v, fail, must, mark, look, pay)
def lackI (Q : Stk) (p : Int32) : Int := p.toInt * (10 * (oParts Q 0 0 p).toInt) - (oTenths Q 0 0 p).toInt
theorem edge_iff {n : Nat} {many has would fail must : Nat → Int32} {mark look pay : Int32} {s : Nat} {v p : Int32} (hB0 : SB (eQ n many has would fail must mark look pay s 0)) (hBv : SB (eQ n many has would fail must mark look pay s v)) (hs : s < n) :
    (rB (eQ n many has would fail must mark look pay s v) 0 0 p = true ∧ ¬ oAl (eQ n many has would fail must mark look pay s v) 0 0 p s = 0) ↔ (¬ p < has s ∧ lackI (eQ n many has would fail must mark look pay s 0) p ≤ v.toInt * (10 * (oSa (eQ n many has would fail must mark look pay s 0) 0 0 p s).toInt)) := by
  have ec : ∀ i, oCo (eQ n many has would fail must mark look pay s v) 0 0 p i = oCo (eQ n many has would fail must mark look pay s 0) 0 0 p i := by
    intro i; rw [co_0, co_0]
  have ep : (oParts (eQ n many has would fail must mark look pay s v) 0 0 p).toInt = (oParts (eQ n many has would fail must mark look pay s 0) 0 0 p).toInt := by
    rw [pa_0 hBv, pa_0 hB0]
    exact si_cong (fun i hi => by rw [ec i])
  have et : (oTenths (eQ n many has would fail must mark look pay s v) 0 0 p).toInt = (oTenths (eQ n many has would fail must mark look pay s 0) 0 0 p).toInt + (oSa (eQ n many has would fail must mark look pay s 0) 0 0 p s).toInt * (10 * v.toInt) := by
    rw [te_0 hBv, te_0 hB0, si_one (s := s) (n := n) (f := fun i => 800 * (oCo (eQ n many has would fail must mark look pay s 0) 0 0 p i).toInt * (10 * ((upd would s 0) i).toInt)) hs, sa_0 hB0 hs]
    · dsimp only
      rw [ec s, upd_at, if_pos rfl, upd_at, if_pos rfl]
      have : (0 : Int32).toInt = 0 := rfl
      rw [this]
      omega
    · intro i hi z
      dsimp only
      rw [ec i, upd_at, if_neg z, upd_at, if_neg z]
  have e10 : v.toInt * (10 * (oSa (eQ n many has would fail must mark look pay s 0) 0 0 p s).toInt) = (oSa (eQ n many has would fail must mark look pay s 0) 0 0 p s).toInt * (10 * v.toInt) := by
    rw [Int.mul_comm, Int.mul_comm (10 : Int), Int.mul_assoc]
  rw [rB_iff, ep, et, e10]
  unfold lackI
  constructor
  · rintro ⟨⟨h1, h2⟩, h3⟩
    rw [al_0] at h3
    refine ⟨?_, by omega⟩
    intro q
    rw [if_pos q] at h3
    exact h3 rfl
  · rintro ⟨h1, h2⟩
    have h3 : ¬ oAl (eQ n many has would fail must mark look pay s 0) 0 0 p s = 0 := by
      rw [al_0, if_neg h1]; decide
    have h4 := (pa_pos hB0 (p := p) hs h3).1
    refine ⟨⟨h4, by omega⟩, ?_⟩
    rw [al_0, if_neg h1]; decide
theorem lack_b {Q : Stk} (hB : SB Q) {p : Int32} (hp : VP p) : lackI Q p ≤ 380800000 := by
  obtain ⟨-, h1, h2⟩ := parts_i hB (p := p) hk00
  obtain ⟨h3, h4⟩ := tenths_b hB (p := p) hk00
  obtain ⟨h5, h6⟩ := hp
  unfold lackI
  have := Int.mul_le_mul h6 (show 10 * (oParts Q 0 0 p).toInt ≤ 3200000 by omega) (by omega) (by omega)
  omega
theorem edge5 {n : Nat} {many has would fail must : Nat → Int32} {mark look pay : Int32} {s st : Nat} (hB : SB (n, many, has, would, fail, must, mark, look, pay)) (hs : s < n) (hst : st ≤ 100) (hh : (has s).toInt ≤ (st : Int)) (r : Nat → Int32) (x1 x2 x3 x4 x5 x6 : Int32) :
    ∃ t L, loopF (fX5_edge_b48 (nI s) many has would fail must (nI n) mark look pay) 1000 ((1000000 : Int32), nI st, r, x1, x2, x3, x4, x5, x6) = some t ∧ t.1 = nI L ∧ MinOf (fun v => ∃ p, st ≤ p ∧ p < 100 ∧ lackI (n, many, has, would, fail, must, mark, look, pay) (nI p) ≤ (v : Int) * (10 * (oSa (n, many, has, would, fail, must, mark, look, pay) 0 0 (nI p) s).toInt)) L := by
  have hn : n ≤ 8 := hB.1
  obtain ⟨t, h1, L, h2, h3⟩ := loop_to (fX5_edge_b48 (nI s) many has would fail must (nI n) mark look pay) (fun i v => v.2.1 = nI (st + i) ∧ ∃ L, v.1 = nI L ∧ MinOf (fun v => ∃ p, st ≤ p ∧ p < st + i ∧ lackI (n, many, has, would, fail, must, mark, look, pay) (nI p) ≤ (v : Int) * (10 * (oSa (n, many, has, would, fail, must, mark, look, pay) 0 0 (nI p) s).toInt)) L) (fun t => ∃ L, t.1 = nI L ∧ MinOf (fun v => ∃ p, st ≤ p ∧ p < 100 ∧ lackI (n, many, has, would, fail, must, mark, look, pay) (nI p) ≤ (v : Int) * (10 * (oSa (n, many, has, would, fail, must, mark, look, pay) 0 0 (nI p) s).toInt)) L) (100 - st) (v := ((1000000 : Int32), nI st, r, x1, x2, x3, x4, x5, x6)) (by omega) ⟨rfl, 1000000, rfl, Min_none (fun v ⟨p, h1, h2, _⟩ => by omega)⟩ (by
    rintro i ⟨b1, b2, y1, y2, y3, y4, y5, y6, y7⟩ hi ⟨q1, L, q2, q3⟩
    dsimp only at q1 q2
    subst q1; subst q2
    have hp := vp_nI (i := st + i) (by omega)
    have hc : ¬ (100 : Int32) ≤ nI (st + i) := nle (n := 100) (by omega) (by omega)
    obtain ⟨pf, g1, g2⟩ := make5 hn many has would fail must mark look pay y1 0 0 (nI (st + i))
    have lk := lack_i hB (p := nI (st + i)) hk00 hp
    have lb := lack_b hB hp
    have ab := sa_b hB (p := nI (st + i)) hk00 hs
    have al : ¬ oAl (n, many, has, would, fail, must, mark, look, pay) 0 0 (nI (st + i)) s = 0 := by
      rw [al_0, if_neg (by rw [fa_lt, nI_toInt (by omega)]; show ¬ _ < (has s).toInt; omega)]; decide
    have ap := (pa_pos hB hs al).2
    unfold fX5_edge_b48
    dsimp only
    rw [if_neg hc, g1, bd_s]
    unfold fX4_lackAt fX4_shares
    dsimp only
    rw [bd_s, bd_s, ckI_nI (by omega) (by omega), nI_clamp (by omega), g2 s hs]
    have y10 : (10 : Int32).toInt = 10 := rfl
    have em : ((10 : Int32) * oSa (n, many, has, would, fail, must, mark, look, pay) 0 0 (nI (st + i)) s).toInt = 10 * (oSa (n, many, has, would, fail, must, mark, look, pay) 0 0 (nI (st + i)) s).toInt := by
      rw [fb_mulI (by rw [y10]; omega) (by rw [y10]; omega), y10]
    obtain ⟨x, f1, f2⟩ := few (lack := nI (st + i) * (10 * oParts (n, many, has, would, fail, must, mark, look, pay) 0 0 (nI (st + i))) - oTenths (n, many, has, would, fail, must, mark, look, pay) 0 0 (nI (st + i))) (each := 10 * oSa (n, many, has, would, fail, must, mark, look, pay) 0 0 (nI (st + i)) s) (by rw [lk]; unfold lackI at lb; omega) (by rw [em]; omega) (by rw [em]; omega)
    rw [f1, bd_s]
    rw [lk, em] at f2
    refine ⟨_, rfl, nI_1 _, (if x < L then x else L), ?_, ?_⟩
    · dsimp only
      have l1 := q3.1
      have l2 := f2.1
      by_cases z : x < L
      · rw [if_pos z, if_pos (by rw [fa_lt, nI_toInt (by omega), nI_toInt (by omega)]; omega)]
      · rw [if_neg z, if_neg (by rw [fa_lt, nI_toInt (by omega), nI_toInt (by omega)]; omega)]
    · refine Min_iff (Min_or q3 f2) (fun v => ?_)
      constructor
      · rintro (⟨p, h1, h2, h3⟩ | h)
        · exact ⟨p, h1, by omega, h3⟩
        · exact ⟨st + i, by omega, by omega, h⟩
      · rintro ⟨p, h1, h2, h3⟩
        by_cases z : p = st + i
        · rw [z] at h3; exact Or.inr h3
        · exact Or.inl ⟨p, h1, by omega, h3⟩) (by
    rintro ⟨b1, b2, y1, y2, y3, y4, y5, y6, y7⟩ ⟨q1, L, q2, q3⟩
    dsimp only at q1 q2
    rw [show st + (100 - st) = 100 by omega] at q1 q3
    subst q1; subst q2
    unfold fX5_edge_b48
    dsimp only
    rw [if_pos (show (100 : Int32) ≤ nI 100 by decide)]
    exact ⟨_, rfl, L, rfl, q3⟩)
  exact ⟨t, L, h1, h2, h3⟩
theorem i52 : ∀ s, s < 8 → (5 : Int32) * nI s + 2 = nI (5 * s + 2) := by decide
theorem i54 : ∀ s, s < 8 → (5 : Int32) * nI s + 4 = nI (5 * s + 4) := by decide
theorem upd_upd (f : Nat → Int32) (k : Nat) (x : Int32) {g : Nat → Int32} (h : ∀ j, ¬ j = k → g j = f j) : upd g k x = upd f k x := by
  funext j
  rw [upd_at, upd_at]
  by_cases c : j = k
  · rw [if_pos c, if_pos c]
  · rw [if_neg c, if_neg c, h j c]
theorem edge6 {n : Nat} {sorts rules many has would fail must : Nat → Int32} {mark look pay : Int32} {s : Nat} (hn : n ≤ 8) (hs : s < n) (hS : SS n sorts many has would fail must) (hr : VR mark look pay) (r0 : rules 0 = mark) (r1 : rules 1 = look) (r2 : rules 2 = pay) (l2 : Int32) (g1 g2 g3 : Int64) (c0 s0 : Nat → Int32) (x1 x2 x3 : Int32) :
    ∃ t, loopF (fX6_edge_b24 (nI s) l2 rules (nI n) (-4)) 1000 ((-4 : Int32), (99 : Int32), g1, g2, g3, sorts, c0, s0, x1, x2, x3) = some t ∧ Lst (fun v => ¬ (1 : Int32) <<< (nI s &&& 31) = 0 ∧ GoOn (eQ n many has would fail must mark look pay s (nI v)) 0 ((1 : Int32) <<< (nI s &&& 31)) 1 100) 0 100 t.1 ∧ ∀ j, ¬ j = 5 * s + 2 → t.2.2.2.2.1 j = sorts j := by
  refine loop_to _ (fun i v => v.2.1 + 1 = nI (100 - i) ∧ Lst (fun v => ¬ (1 : Int32) <<< (nI s &&& 31) = 0 ∧ GoOn (eQ n many has would fail must mark look pay s (nI v)) 0 ((1 : Int32) <<< (nI s &&& 31)) 1 100) (100 - i) 100 v.1 ∧ ∀ j, ¬ j = 5 * s + 2 → v.2.2.2.2.2.1 j = sorts j) _ 100 (by omega) ⟨rfl, Or.inl ⟨rfl, fun j h1 h2 => by omega⟩, fun _ _ => rfl⟩ ?_ ?_
  · rintro i ⟨b1, b2, y1, y2, y3, y4, y5, y6, y7, y8, y9⟩ hi ⟨q1, q2, q3⟩
    dsimp only at q1 q2 q3
    have qb : b2 = nI (99 - i) := by
      have : b2 = nI (100 - i) + (-1) := by rw [← q1, Int32.add_assoc]; exact (Int32.add_zero b2).symm
      rw [this, dec_nI (by omega) (by omega), show 100 - i - 1 = 99 - i by omega]
    subst qb
    have e := nI_toInt (n := 99 - i) (by omega)
    have hc : ¬ nI (99 - i) < (0 : Int32) := by rw [fa_lt, e]; have : (0 : Int32).toInt = 0 := rfl; omega
    have hone := (hS s hs).2.2.2.2.2
    have hone' : ROne (many s) (has s) (nI (99 - i)) (fail s) (must s) := by
      unfold ROne at hone ⊢
      omega
    have hS' := SS_upd2 hS hs hone'
    have hB : SB (eQ n many has would fail must mark look pay s (nI (99 - i))) := SB_of hn hS' hr
    have hD := rests_w (rules := rules) hS' hB r0 r1 r2 (k := 0) hk00
    obtain ⟨b, T, k1, k2⟩ := goes6 hD (f := 1) (by omega) ((1 : Int32) <<< (nI s &&& 31)) y1 y2 y3 y5 y6 y7 y8 y9
    unfold fX6_edge_b24
    dsimp only
    rw [if_neg hc, i52 s (by omega), ckI_nI (by omega) (by omega), nI_clamp (by omega), upd_upd sorts _ _ q3]
    have k1' : fX6_goesOn y1 y2 y3 (upd sorts (5 * s + 2) (nI (99 - i))) rules y5 y6 (nI n) (-4) y7 y8 y9 0 1 ((1 : Int32) <<< (nI s &&& 31)) = some (b, T) := k1
    rw [k1', bd_s]
    dsimp only
    have e9 : 100 - i = (100 - (i + 1)) + 1 := by omega
    have e8 : 99 - i = 100 - (i + 1) := by omega
    have en : nI (99 - i) + -1 + 1 = nI (100 - (i + 1)) := by
      rw [Int32.add_assoc, ← e8]; exact Int32.add_zero _
    have eo : ∀ j, ¬ j = 5 * s + 2 → upd sorts (5 * s + 2) (nI (99 - i)) j = sorts j := by
      intro j hj
      rw [upd_at, if_neg hj]
    by_cases c : b = 0
    · rw [if_pos c, bd_s]
      refine ⟨_, rfl, ?_⟩
      refine ⟨en, ?_, eo⟩
      rw [e9] at q2
      refine Lst_no q2 ?_
      intro q
      rw [← e8] at q
      exact k2.mpr q c
    · rw [if_neg c, bd_s]
      refine ⟨_, rfl, ?_⟩
      refine ⟨en, ?_, eo⟩
      dsimp only
      have := k2.mp c
      rw [e8] at this ⊢
      exact Lst_yes (M := fun v => ¬ (1 : Int32) <<< (nI s &&& 31) = 0 ∧ GoOn (eQ n many has would fail must mark look pay s (nI v)) 0 ((1 : Int32) <<< (nI s &&& 31)) 1 100) (by omega) this
  · rintro ⟨b1, b2, y1, y2, y3, y4, y5, y6, y7, y8, y9⟩ ⟨q1, q2, q3⟩
    dsimp only at q1 q2 q3
    have qb : b2 = -1 := by
      have : b2 = nI (100 - 100) + (-1) := by rw [← q1, Int32.add_assoc]; exact (Int32.add_zero b2).symm
      rw [this]; rfl
    subst qb
    unfold fX6_edge_b24
    dsimp only
    rw [if_pos (show (-1 : Int32) < (0 : Int32) by decide)]
    exact ⟨_, rfl, q2, q3⟩
end EdgeK
