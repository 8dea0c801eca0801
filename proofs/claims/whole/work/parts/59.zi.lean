section SharpI
abbrev cp8 (f g : Nat → Int32) : Nat → Int32 := va_cpy f g (0 : Int32).toNatClampNeg (0 : Int32).toNatClampNeg (8 : Int32).toNatClampNeg
theorem cp8_at {f g : Nat → Int32} {s : Nat} (h : s < 8) : cp8 f g s = f s := by
  show (if 0 ≤ s ∧ s < 0 + 8 then f (0 + (s - 0)) else g s) = f s
  rw [if_pos ⟨by omega, by omega⟩, Nat.zero_add, Nat.sub_zero]
theorem copy_eq (O_r0 O_r1 O_r2 O_r3 O_r4 : Nat → Int32) (O_x5 O_x6 O_x7 O_x8 O_x9 : Int32) (S_r0 S_r1 S_r2 S_r3 S_r4 : Nat → Int32) : fX2_copy O_r0 O_r1 O_r2 O_r3 O_r4 O_x5 O_x6 O_x7 O_x8 O_x9 S_r0 S_r1 S_r2 S_r3 S_r4 = some (cp8 O_r0 S_r0, cp8 O_r1 S_r1, cp8 O_r2 S_r2, cp8 O_r3 S_r3, cp8 O_r4 S_r4, O_x5, O_x6, O_x7, O_x8, O_x9) := rfl
theorem SS_cp {n : Nat} (hn : n ≤ 8) {sorts many has would fail must : Nat → Int32} (hS : SS n sorts many has would fail must) (a b c d e : Nat → Int32) : SS n sorts (cp8 many a) (cp8 has b) (cp8 would c) (cp8 fail d) (cp8 must e) := by
  intro s hs
  rw [cp8_at (by omega), cp8_at (by omega), cp8_at (by omega), cp8_at (by omega), cp8_at (by omega)]
  exact hS s hs
theorem SB_of {n : Nat} (hn : n ≤ 8) {sorts many has would fail must : Nat → Int32} (hS : SS n sorts many has would fail must) {mark look pay : Int32} (hr : VR mark look pay) : SB (n, many, has, would, fail, must, mark, look, pay) := ⟨hn, fun s h => (hS s h).2.2.2.2.2, hr⟩
theorem vo_0 {k : Int32} (h1 : 0 ≤ k.toInt) (h2 : k.toInt ≤ 4) : VO k 0 := ⟨h1, h2, by decide, by decide, fun _ => by decide⟩
theorem sharp_in {n : Nat} {many has would fail must : Nat → Int32} {mark look pay : Int32} (hB : SB (n, many, has, would, fail, must, mark, look, pay)) (a l2 kn : Int32) (r : Nat → Int32) (x1 x2 x3 x4 x5 x6 : Int32) :
    ∃ t, loopF (fX5_sharp_b44 a l2 many has would fail must (nI n) mark look pay kn) 1000 ((0 : Int32), r, x1, x2, x3, x4, x5, x6) = some t ∧ ((∃ z, t = .inl z ∧ z.1 = l2 ∧ GoOn (n, many, has, would, fail, must, mark, look, pay) 2 a 0 100) ∨ (∃ e, t = .inr e ∧ ¬ GoOn (n, many, has, would, fail, must, mark, look, pay) 2 a 0 100)) := by
  have hn : n ≤ 8 := hB.1
  have hk : VO (2 : Int32) 0 := vo_0 (by decide) (by decide)
  refine loop_ot _ (fun i v => v.1 = nI i ∧ ¬ GoOn (n, many, has, would, fail, must, mark, look, pay) 2 a 0 i) _ 100 (by omega) ⟨rfl, fun ⟨p, h1, h2, _⟩ => by omega⟩ ?_ ?_
  · rintro i ⟨b1, y1, y2, y3, y4, y5, y6, y7⟩ hi ⟨q1, q2⟩
    dsimp only at q1
    subst q1
    have hp := vp_nI hi
    have hc : ¬ (100 : Int32) ≤ nI i := nle (n := 100) hi (by omega)
    obtain ⟨pf, g1, -⟩ := make5 hn many has would fail must mark look pay y1 2 0 (nI i)
    have more : ¬ (rB (n, many, has, would, fail, must, mark, look, pay) 2 0 (nI i) = true ∧ oWhole (n, many, has, would, fail, must, mark, look, pay) 2 0 (nI i) &&& a = a) → ¬ GoOn (n, many, has, would, fail, must, mark, look, pay) 2 a 0 (i + 1) := by
      rintro h ⟨p, h1, h2, h3⟩
      by_cases z : p = i
      · rw [z] at h3; exact h h3
      · exact q2 ⟨p, h1, by omega, h3⟩
    unfold fX5_sharp_b44
    dsimp only
    rw [if_neg hc, g1, bd_s]
    dsimp only
    unfold fX4_bringsAll
    rw [holds5 hB hk hp]
    by_cases c : oWhole (n, many, has, would, fail, must, mark, look, pay) 2 0 (nI i) &&& a = a
    · simp only [if_pos c, bd_s, one0, ite_false]
      by_cases r : rB (n, many, has, would, fail, must, mark, look, pay) 2 0 (nI i) = true
      · simp only [if_pos r, one0, ite_false]
        exact Or.inr ⟨_, rfl, Or.inl ⟨_, rfl, rfl, i, by omega, hi, r, c⟩⟩
      · simp only [if_neg r, ite_true]
        exact Or.inl ⟨_, rfl, nI_1 i, more (fun q => r q.1)⟩
    · simp only [if_neg c, bd_s, ite_true]
      exact Or.inl ⟨_, rfl, nI_1 i, more (fun q => c q.2)⟩
  · rintro ⟨b1, y1, y2, y3, y4, y5, y6, y7⟩ ⟨q1, q2⟩
    dsimp only at q1
    subst q1
    unfold fX5_sharp_b44
    dsimp only
    rw [if_pos (show (100 : Int32) ≤ nI 100 by decide)]
    exact ⟨_, rfl, Or.inr ⟨_, rfl, q2⟩⟩
theorem sharp5 {n : Nat} {sorts many has would fail must : Nat → Int32} {mark pay : Int32} (hn : n ≤ 8) (hS : SS n sorts many has would fail must) (hr : VR mark 4 pay) (a kn : Int32) (lk : Int32) (r : Nat → Int32) (x1 x2 x3 x4 x5 x6 : Int32) :
    ∃ t, loopF (fX5_sharp_b28 a many has would fail must (nI n) mark pay kn) 1000 ((4 : Int32), lk, r, x1, x2, x3, x4, x5, x6) = some t ∧ ∃ x, Lst (fun j => GoOn (n, many, has, would, fail, must, mark, nI j, pay) 2 a 0 100) 4 9 x ∧ ((∃ z, t = .inl z ∧ z.1 = x) ∨ (∃ e, t = .inr e ∧ x = -4)) := by
  refine loop_ot _ (fun i v => v.1 = nI (4 + i) ∧ ∀ j, 4 ≤ j → j < 4 + i → ¬ GoOn (n, many, has, would, fail, must, mark, nI j, pay) 2 a 0 100) _ 5 (by omega) ⟨rfl, fun j h1 h2 => by omega⟩ ?_ ?_
  · rintro i ⟨b1, b2, y1, y2, y3, y4, y5, y6, y7⟩ hi ⟨q1, q2⟩
    dsimp only at q1
    subst q1
    have e := nI_toInt (n := 4 + i) (by omega)
    have hc : ¬ (8 : Int32) < nI (4 + i) := by rw [fa_lt, e]; have : (8 : Int32).toInt = 8 := rfl; omega
    obtain ⟨h1, h2, h3, h4, h5, h6⟩ := hr
    have hB : SB (n, many, has, would, fail, must, mark, nI (4 + i), pay) := SB_of hn hS ⟨h1, h2, by omega, by omega, h5, h6⟩
    obtain ⟨t, g1, g2⟩ := sharp_in hB a (nI (4 + i)) kn y1 y2 y3 y4 y5 y6 y7
    unfold fX5_sharp_b28
    dsimp only
    rw [if_neg hc, g1, bd_s]
    rcases g2 with ⟨z, rfl, z1, z2⟩ | ⟨z, rfl, z2⟩
    · exact Or.inr ⟨_, rfl, nI (4 + i), Or.inr ⟨4 + i, by omega, by omega, rfl, z2, q2⟩, Or.inl ⟨_, rfl, z1⟩⟩
    · refine Or.inl ⟨_, rfl, nI_1 _, fun j h1 h2 => ?_⟩
      by_cases d : j = 4 + i
      · rw [d]; exact z2
      · exact q2 j h1 (by omega)
  · rintro ⟨b1, b2, y1, y2, y3, y4, y5, y6, y7⟩ ⟨q1, q2⟩
    dsimp only at q1
    subst q1
    unfold fX5_sharp_b28
    dsimp only
    rw [if_pos (show (8 : Int32) < nI (4 + 5) by decide)]
    exact ⟨_, rfl, -4, Or.inl ⟨rfl, q2⟩, Or.inr ⟨_, rfl, rfl⟩⟩
theorem dec_nI {a : Nat} (h : 1 ≤ a) (h2 : a < 2 ^ 31) : nI a + (-1 : Int32) = nI (a - 1) := by
  refine eq32 ?_
  have e1 := nI_toInt (n := a) h2
  have e2 : (-1 : Int32).toInt = -1 := rfl
  rw [fb_addI (by rw [e1, e2]; omega) (by rw [e1, e2]; omega), e1, e2, nI_toInt (by omega)]
  omega
theorem sharp6 {n : Nat} {sorts rules many has would fail must : Nat → Int32} {mark look pay : Int32} (hn : n ≤ 8) (hS : SS n sorts many has would fail must) (hr : VR mark look pay) (r0 : rules 0 = mark) (r2 : rules 2 = pay) (a l2 : Int32) (g1 g2 g3 : Int64) (c0 s0 : Nat → Int32) (x1 x2 x3 : Int32) :
    ∃ t, loopF (fX6_sharp_b50 a l2 sorts (nI n) (-4)) 1000 ((-4 : Int32), (8 : Int32), g1, g2, g3, rules, c0, s0, x1, x2, x3) = some t ∧ Lst (fun j => ¬ a = 0 ∧ GoOn (n, many, has, would, fail, must, mark, nI j, pay) 2 a 0 100) 4 9 t.1 ∧ ∀ j, ¬ j = 1 → t.2.2.2.2.1 j = rules j := by
  refine loop_to _ (fun i v => v.2.1 = nI (8 - i) ∧ Lst (fun j => ¬ a = 0 ∧ GoOn (n, many, has, would, fail, must, mark, nI j, pay) 2 a 0 100) (9 - i) 9 v.1 ∧ ∀ j, ¬ j = 1 → v.2.2.2.2.2.1 j = rules j) _ 5 (by omega) ⟨rfl, Or.inl ⟨rfl, fun j h1 h2 => by omega⟩, fun _ _ => rfl⟩ ?_ ?_
  · rintro i ⟨b1, b2, y1, y2, y3, y4, y5, y6, y7, y8, y9⟩ hi ⟨q1, q2, q3⟩
    dsimp only at q1 q2 q3
    subst q1
    have e := nI_toInt (n := 8 - i) (by omega)
    have hc : ¬ nI (8 - i) < (4 : Int32) := by rw [fa_lt, e]; have : (4 : Int32).toInt = 4 := rfl; omega
    obtain ⟨h1, h2, h3, h4, h5, h6⟩ := hr
    have hB : SB (n, many, has, would, fail, must, mark, nI (8 - i), pay) := SB_of hn hS ⟨h1, h2, by omega, by omega, h5, h6⟩
    have hD := rests_w (rules := upd y4 1 (nI (8 - i))) hS hB (by rw [upd_at, if_neg (by omega), q3 0 (by omega), r0]) (by rw [upd_at, if_pos rfl]) (by rw [upd_at, if_neg (by omega), q3 2 (by omega), r2]) (k := 2) (vo_0 (by decide) (by decide))
    obtain ⟨b, T, k1, k2⟩ := goes6 hD (f := 0) (by omega) a y1 y2 y3 y5 y6 y7 y8 y9
    unfold fX6_sharp_b50
    dsimp only
    rw [if_neg hc]
    have k1' : fX6_goesOn y1 y2 y3 sorts (upd y4 (1 : Int32).toNatClampNeg (nI (8 - i))) y5 y6 (nI n) (-4) y7 y8 y9 2 0 a = some (b, T) := k1
    rw [k1', bd_s]
    dsimp only
    have e9 : 9 - i = (9 - (i + 1)) + 1 := by omega
    have e8 : 8 - i = 9 - (i + 1) := by omega
    have eo : ∀ j, ¬ j = 1 → upd y4 (1 : Int32).toNatClampNeg (nI (8 - i)) j = rules j := by
      intro j hj
      rw [show (1 : Int32).toNatClampNeg = 1 from rfl, upd_at, if_neg hj, q3 j hj]
    by_cases c : b = 0
    · rw [if_pos c, bd_s]
      refine ⟨_, rfl, ?_⟩
      refine ⟨by rw [dec_nI (by omega) (by omega)]; congr 1, ?_, eo⟩
      rw [e9] at q2
      refine Lst_no q2 ?_
      intro q
      rw [← e8] at q
      exact k2.mpr q c
    · rw [if_neg c, bd_s]
      refine ⟨_, rfl, ?_⟩
      refine ⟨by rw [dec_nI (by omega) (by omega)]; congr 1, ?_, eo⟩
      dsimp only
      have := k2.mp c
      rw [e8] at this ⊢
      exact Lst_yes (M := fun j => ¬ a = 0 ∧ GoOn (n, many, has, would, fail, must, mark, nI j, pay) 2 a 0 100) (by omega) this
  · rintro ⟨b1, b2, y1, y2, y3, y4, y5, y6, y7, y8, y9⟩ ⟨q1, q2, q3⟩
    dsimp only at q1 q2 q3
    subst q1
    unfold fX6_sharp_b50
    dsimp only
    rw [if_pos (show nI (8 - 5) < (4 : Int32) by decide)]
    exact ⟨_, rfl, q2, q3⟩
theorem good6_run {sorts rules many has would fail must : Nat → Int32} {mark : Int32} {n : Nat} (hn : n ≤ 8) (hs : SS n sorts many has would fail must) (h0 : rules 0 = mark) : loopF (fX6_sharp_b4 (nI n) sorts rules) 1000 ((0 : Int32), (0 : Int32)) = some (nI (gmask (goodB would mark) n)) := by
  obtain ⟨t, h1, h2⟩ := loop_to (fX6_sharp_b4 (nI n) sorts rules) (fun i v => v.1 = nI (gmask (goodB would mark) i) ∧ v.2 = nI i) (fun t => t = nI (gmask (goodB would mark) n)) n (v := ((0 : Int32), (0 : Int32))) (by omega) ⟨rfl, rfl⟩ (by
    rintro i ⟨b1, b2⟩ hi ⟨q1, q2⟩
    dsimp only at q1 q2
    subst q1; subst q2
    unfold fX6_sharp_b4
    dsimp only
    rw [if_neg (nle hi (by omega)), good6 (by omega) (hs i hi).2.2.1 h0, good_b would mark (by omega), bd_s]
    by_cases c : goodB would mark i = true
    · simp only [if_pos c, one0, ite_false, bd_s]
      refine ⟨_, rfl, ?_, nI_1 i⟩
      dsimp only
      rw [gmask, if_pos c, shl1 i (by omega), or_bit (by omega)]
    · simp only [if_neg c, ite_true, bd_s]
      refine ⟨_, rfl, ?_, nI_1 i⟩
      dsimp only
      rw [gmask, if_neg c, Nat.add_zero, Int32.or_zero]) (by
    rintro ⟨b1, b2⟩ ⟨q1, q2⟩
    dsimp only at q1 q2
    subst q1; subst q2
    unfold fX6_sharp_b4
    dsimp only
    rw [if_pos (by rw [fa_le]; omega)]
    exact ⟨_, rfl, rfl⟩)
  rw [h1, h2]
end SharpI
