set_option maxRecDepth 20000 in
set_option maxHeartbeats 2000000 in
theorem sim_fall (E_x1 : Int32) (E_r0 : (Nat → Int32)) (M_x1 : Int32) (M_r0 : (Nat → Int32)) (L_x6 : Int32) (M_x2 : Int32) (L_x7 : Int32) (M_x33 : Int32) (S_x5 : Int32) (S_x6 : Int32) (S_x7 : Int32) (S_x8 : Int32) (S_x9 : Int32) (S_r0 : (Nat → Int32)) (S_r1 : (Nat → Int32)) (S_r2 : (Nat → Int32)) (S_r3 : (Nat → Int32)) (S_r4 : (Nat → Int32)) (M_x12 : Int32) (M_r11 : (Nat → Int32)) (M_r15 : (Nat → Int32)) (M_x18 : Int32) (M_r9 : (Nat → Int32)) (M_r10 : (Nat → Int32)) (H0_x1 : Int32) (H0_x2 : Int32) (H0_r0 : (Nat → Int32)) (H1_x1 : Int32) (H1_x2 : Int32) (H1_r0 : (Nat → Int32)) (H2_x1 : Int32) (H2_x2 : Int32) (H2_r0 : (Nat → Int32)) (H3_x1 : Int32) (H3_x2 : Int32) (H3_r0 : (Nat → Int32)) (M_r30 : (Nat → Int32)) (M_r31 : (Nat → Int32)) (M_r32 : (Nat → Int32)) (T_r0 : (Nat → Int32)) (T_x1 : Int32) (T_x2 : Int32) (T_x3 : Int32) (T_x4 : Int32) (T_x5 : Int32) (T_x6 : Int32) (M_g24 : Int64) (M_g25 : Int64) (M_g26 : Int64) (M_r21 : (Nat → Int32)) (M_r22 : (Nat → Int32)) (M_x19 : Int32) (M_x20 : Int32) (M_x23 : Int32) (hR : Rel E_x1 E_r0 M_x1 M_r0 L_x6 M_x2 L_x7 M_x33 S_x5 S_x6 S_x7 S_x8 S_x9 S_r0 S_r1 S_r2 S_r3 S_r4 M_x12 M_r11 M_r15 M_x18 M_r9 M_r10 H0_x1 H0_x2 H0_r0 H1_x1 H1_x2 H1_r0 H2_x1 H2_x2 H2_r0 H3_x1 H3_x2 H3_r0 M_r30 M_r31 M_r32) (a1 : Int32) (a2 : Int32) (a3 : Int32) (a4 : Int32) : ∃ (t1 : (Int32 × (Nat → Int32) × Int32 × Int32 × Int32 × Int32 × Int32 × Int32)) (t2 : (Int32 × Int64 × Int64 × Int64 × (Nat → Int32) × (Nat → Int32) × Int32 × Int32 × Int32)), fX5_fall S_r0 S_r1 S_r2 S_r3 S_r4 S_x5 S_x6 S_x7 S_x8 T_r0 T_x1 T_x2 T_x3 T_x4 T_x5 T_x6 a1 a2 a3 a4 = some t1 ∧ fX6_fall M_g24 M_g25 M_g26 M_r11 M_r15 M_r21 M_r22 M_x12 M_x18 M_x19 M_x20 M_x23 a1 a2 a3 a4 = some t2 ∧ t1.1 = t2.1 ∧ Rel E_x1 E_r0 M_x1 M_r0 L_x6 M_x2 L_x7 M_x33 S_x5 S_x6 S_x7 S_x8 S_x9 S_r0 S_r1 S_r2 S_r3 S_r4 M_x12 M_r11 M_r15 M_x18 M_r9 M_r10 H0_x1 H0_x2 H0_r0 H1_x1 H1_x2 H1_r0 H2_x1 H2_x2 H2_r0 H3_x1 H3_x2 H3_r0 M_r30 M_r31 M_r32 := by
  have hR0 := hR
  obtain ⟨-, -, -, ⟨⟨n, hn, rfl, rfl, hs⟩, r0, r1, r2, r3, m1, m2, m3, m4, m5, m6, m7, m8⟩, rfl, -⟩ := hR
  have hB : SB (n, S_r0, S_r1, S_r2, S_r3, S_r4, S_x6, S_x7, S_x8) := ⟨hn, fun s h => (hs s h).2.2.2.2.2, m1, m2, m3, m4, m5, m6⟩
  simp only [fX5_fall, fX6_fall, isOffer6, isPrice6, in_0_1, in_10_99]
  have key : VO a1 a2 → VP a3 → ((0 : Int32) ≤ a4 ∧ a4 ≤ 1) ∨ ((10 : Int32) ≤ a4 ∧ a4 ≤ 99) → ∃ t1 t2,
      (bd (loopF (fX5_fall_b60 a1 a2 a4 S_r0 S_r1 S_r2 S_r3 S_r4 (nI n) S_x6 S_x7 S_x8) 1000 (a3, (0 : Int32), (0 : Int32), T_r0, T_x1, T_x2, T_x3, T_x4, T_x5, T_x6)) (fun T15 => sm T15 (fun z => some z) (fun e15 => if a4 = 0 then (bd (fX4_holdsAt e15.2.2.2.2.2.1 e15.2.2.2.2.2.2.1 e15.1) (fun t25 => if t25 = 0 then (some ((-4 : Int32), e15.2.2.1, e15.2.2.2.1, e15.2.2.2.2.1, e15.2.2.2.2.2.1, e15.2.2.2.2.2.2.1, e15.2.2.2.2.2.2.2.1, e15.2.2.2.2.2.2.2.2)) else (some (e15.1, e15.2.2.1, e15.2.2.2.1, e15.2.2.2.2.1, e15.2.2.2.2.2.1, e15.2.2.2.2.2.2.1, e15.2.2.2.2.2.2.2.1, e15.2.2.2.2.2.2.2.2)))) else (if a4 = 1 then (some (e15.2.1, e15.2.2.1, e15.2.2.2.1, e15.2.2.2.2.1, e15.2.2.2.2.2.1, e15.2.2.2.2.2.2.1, e15.2.2.2.2.2.2.2.1, e15.2.2.2.2.2.2.2.2)) else (some ((-4 : Int32), e15.2.2.1, e15.2.2.2.1, e15.2.2.2.2.1, e15.2.2.2.2.2.1, e15.2.2.2.2.2.2.1, e15.2.2.2.2.2.2.2.1, e15.2.2.2.2.2.2.2.2)))))) = some t1 ∧
      (bd (if a4 = 10 then some a3 else (some (-4 : Int32))) (fun t15 => bd (fX6_doesRest M_r11 M_r15 M_r21 M_r22 (nI n) (-4) a1 a2 a3) (fun t16 => bd (if t16.1 = 0 then (if t16.2.2.2.2.2.2.2.2 ≤ 0 then (some (0 : Int32)) else (some (1 : Int32))) else (some (0 : Int32))) (fun t20 => bd (loopF (fX6_fall_b89 a1 a2 a4 M_r11 M_r15 (nI n) (-4)) 1000 (a3, (0 : Int32), t15, t20, t16.2.1, t16.2.2.1, t16.2.2.2.1, t16.2.2.2.2.1, t16.2.2.2.2.2.1, t16.2.2.2.2.2.2.1, t16.2.2.2.2.2.2.2.1, t16.2.2.2.2.2.2.2.2)) (fun T21 => if a4 = 1 then (some (T21.2.1, T21.2.2.2.1, T21.2.2.2.2.1, T21.2.2.2.2.2.1, T21.2.2.2.2.2.2.1, T21.2.2.2.2.2.2.2.1, T21.2.2.2.2.2.2.2.2.1, T21.2.2.2.2.2.2.2.2.2.1, T21.2.2.2.2.2.2.2.2.2.2)) else (if a4 ≤ 1 then (if T21.2.2.2.2.2.2.2.2.2.2 = 0 then (some ((-4 : Int32), T21.2.2.2.1, T21.2.2.2.2.1, T21.2.2.2.2.2.1, T21.2.2.2.2.2.2.1, T21.2.2.2.2.2.2.2.1, T21.2.2.2.2.2.2.2.2.1, T21.2.2.2.2.2.2.2.2.2.1, T21.2.2.2.2.2.2.2.2.2.2)) else (if 0 ≤ (lg_cmp T21.2.2.2.1 (T21.1.toInt64 * T21.2.2.2.2.1)) then (some (T21.1, T21.2.2.2.1, T21.2.2.2.2.1, T21.2.2.2.2.2.1, T21.2.2.2.2.2.2.1, T21.2.2.2.2.2.2.2.1, T21.2.2.2.2.2.2.2.2.1, T21.2.2.2.2.2.2.2.2.2.1, T21.2.2.2.2.2.2.2.2.2.2)) else (some ((-4 : Int32), T21.2.2.2.1, T21.2.2.2.2.1, T21.2.2.2.2.2.1, T21.2.2.2.2.2.2.1, T21.2.2.2.2.2.2.2.1, T21.2.2.2.2.2.2.2.2.1, T21.2.2.2.2.2.2.2.2.2.1, T21.2.2.2.2.2.2.2.2.2.2)))) else (some (T21.2.2.1, T21.2.2.2.1, T21.2.2.2.2.1, T21.2.2.2.2.2.1, T21.2.2.2.2.2.2.1, T21.2.2.2.2.2.2.2.1, T21.2.2.2.2.2.2.2.2.1, T21.2.2.2.2.2.2.2.2.2.1, T21.2.2.2.2.2.2.2.2.2.2)))))))) = some t2 ∧ t1.1 = t2.1 := by
    intro hk hp ha
    have y0 : (0 : Int32).toInt = 0 := rfl
    have y1 : (1 : Int32).toInt = 1 := rfl
    have y10 : (10 : Int32).toInt = 10 := rfl
    have y99 : (99 : Int32).toInt = 99 := rfl
    rw [fa_le, fa_le, fa_le, fa_le, y0, y1, y10, y99] at ha
    obtain ⟨L, hL, f1, f2, f3⟩ := fall_L (Q := (n, S_r0, S_r1, S_r2, S_r3, S_r4, S_x6, S_x7, S_x8)) (k := a1) (w := a2) 99 a3 hp (by have := hp.2; omega)
    obtain ⟨t, g1, g2⟩ := fall5 (a4 := a4) hB T_r0 T_x1 T_x2 T_x3 T_x4 T_x5 T_x6 hk hL f1 f2 f3
    obtain ⟨tu, td, gl, cm, so, d1, d2, d3, d4, d5⟩ := rest6 hs hB r0 r1 r2 M_r21 M_r22 hk hp
    have e3 : (if a4 = 10 then some a3 else some (-4 : Int32)) = some (if a4 = 10 then a3 else -4) := by split <;> rfl
    have e10 : (10 : Int32) + nI 0 = 10 := rfl
    obtain ⟨T, p1, p2⟩ := fall6 (a4 := a4) hs hB r0 r1 r2 hk hL f1 f2 f3 (v := (a3, (0 : Int32), (if a4 = 10 then a3 else -4), gof (n, S_r0, S_r1, S_r2, S_r3, S_r4, S_x6, S_x7, S_x8) a1 a2 a3, tu, td, gl, cm, so, oWhole (n, S_r0, S_r1, S_r2, S_r3, S_r4, S_x6, S_x7, S_x8) a1 a2 a3, oHorses (n, S_r0, S_r1, S_r2, S_r3, S_r4, S_x6, S_x7, S_x8) a1 a2 a3, oParts (n, S_r0, S_r1, S_r2, S_r3, S_r4, S_x6, S_x7, S_x8) a1 a2 a3)) (by
      refine ⟨rfl, rfl, ?_, ?_, d2, d3, rfl⟩
      · intro j hj z
        rw [show j = 0 by omega, e10] at z
        dsimp only
        rw [if_pos z, show j = 0 by omega, pr]
      · intro z
        have z' := z 0 (by omega)
        rw [e10] at z'
        dsimp only
        rw [if_neg z']) rfl
    rw [g1, bd_s, e3, bd_s, d1, bd_s]
    dsimp only
    rw [goesI, bd_s, p1, bd_s]
    obtain ⟨q1, q2, q3, q4, q5, q6, q7⟩ := p2
    dsimp only at q1 q2 q3 q4 q5 q6 q7
    generalize ((n, S_r0, S_r1, S_r2, S_r3, S_r4, S_x6, S_x7, S_x8) : Stk) = Q at *
    rcases g2 with ⟨z, j, rfl, hj, ej, ez⟩ | ⟨e, rfl, ej, v1, v2, v3, v4⟩
    · have l4 : 10 ≤ a4.toInt := by
        rw [ej, fb_addI (by rw [y10, nI_toInt (by omega)]; omega) (by rw [y10, nI_toInt (by omega)]; omega), y10, nI_toInt (by omega)]
        omega
      rw [if_neg (show ¬ a4 = 1 by intro q; rw [q] at l4; omega), if_neg (show ¬ a4 ≤ 1 by rw [fa_le, y1]; omega)]
      refine ⟨_, _, rfl, rfl, ?_⟩
      dsimp only
      rw [ez, q3 j hj ej]
    · simp only [sm]
      by_cases k0 : a4 = 0
      · simp only [if_pos k0]
        rw [v3, v4, v1, holds5 hB hk (f3 L (by omega)), bd_s, if_neg (show ¬ a4 = 1 by rw [k0]; decide), if_pos (show a4 ≤ 1 by rw [k0]; decide)]
        have hmul : (T.1.toInt64 * T.2.2.2.2.1).toInt = (pr Q a1 a2 a3 L).toInt * (10 * (oParts Q a1 a2 (pr Q a1 a2 a3 L)).toInt) := by
          rw [q1]
          obtain ⟨pb1, pb2⟩ := f3 L (by omega)
          obtain ⟨-, ob1, ob2⟩ := parts_i hB (p := pr Q a1 a2 a3 L) hk
          rw [← q6, ← toL]
          have w1 : 0 ≤ (pr Q a1 a2 a3 L).toInt * T.2.2.2.2.1.toInt := Int.mul_nonneg pb1 (by omega)
          have w2 : (pr Q a1 a2 a3 L).toInt * T.2.2.2.2.1.toInt ≤ 99 * 3200000 := Int.mul_le_mul pb2 (by omega) (by omega) (by omega)
          exact fb_mulL (by rw [toL]; omega) (by rw [toL]; omega)
        by_cases c : T.2.2.2.2.2.2.2.2.2.2 = 0
        · rw [if_pos c]
          rw [q7] at c
          have nr : ¬ rB Q a1 a2 (pr Q a1 a2 a3 L) = true := by rw [rB_iff, c, y0]; omega
          rw [if_neg nr, if_pos rfl]
          exact ⟨_, _, rfl, rfl, rfl⟩
        · rw [if_neg c]
          rw [q7] at c
          obtain ⟨-, ob1, ob2⟩ := parts_i hB (p := pr Q a1 a2 a3 L) hk
          have ob3 : ¬ (oParts Q a1 a2 (pr Q a1 a2 a3 L)).toInt = 0 := fun q => c (eq32 (by rw [q, y0]))
          have dcmp : 0 ≤ lg_cmp T.2.2.2.1 (T.1.toInt64 * T.2.2.2.2.1) ↔ rB Q a1 a2 (pr Q a1 a2 a3 L) = true := by
            have z := cmp_lt T.2.2.2.1 (T.1.toInt64 * T.2.2.2.2.1)
            rw [fa_lt, y0, fa_lt64, hmul, q5] at z
            rw [fa_le, y0, rB_iff]
            omega
          by_cases r : rB Q a1 a2 (pr Q a1 a2 a3 L) = true
          · rw [if_pos r, if_neg (by decide), if_pos (dcmp.mpr r)]
            refine ⟨_, _, rfl, rfl, ?_⟩
            exact q1.symm
          · rw [if_neg r, if_pos rfl, if_neg (fun q => r (dcmp.mp q))]
            exact ⟨_, _, rfl, rfl, rfl⟩
      · simp only [if_neg k0]
        by_cases k1 : a4 = 1
        · simp only [if_pos k1]
          refine ⟨_, _, rfl, rfl, ?_⟩
          dsimp only
          rw [v2, q2]
        · simp only [if_neg k1]
          have l4 : ¬ a4 ≤ 1 := by
            rw [fa_le, y1]
            intro z
            have z0 : ¬ a4.toInt = 0 := fun q => k0 (eq32 (by rw [q, y0]))
            have z1 : ¬ a4.toInt = 1 := fun q => k1 (eq32 (by rw [q, y1]))
            omega
          rw [if_neg l4]
          refine ⟨_, _, rfl, rfl, ?_⟩
          dsimp only
          rw [q4 ej]
  rcases offer_c a1 a2 with ⟨hk, e1⟩ | e1
  · rcases price_c a3 with ⟨hp, e2⟩ | e2
    · rcases isW_c a4 0 1 with ⟨w1, w2, e3⟩ | ⟨-, e3⟩
      · simp only [e1, e2, e3, bd_s, one0, ite_false, sm]
        obtain ⟨t1, t2, x1, x2, x3⟩ := key hk hp (Or.inl ⟨w1, w2⟩)
        exact ⟨t1, t2, x1, x2, x3, hR0⟩
      · rcases isW_c a4 10 99 with ⟨w1, w2, e4⟩ | ⟨-, e4⟩
        · simp only [e1, e2, e3, e4, bd_s, one0, ite_false, ite_true, sm]
          obtain ⟨t1, t2, x1, x2, x3⟩ := key hk hp (Or.inr ⟨w1, w2⟩)
          exact ⟨t1, t2, x1, x2, x3, hR0⟩
        · simp only [e1, e2, e3, e4, bd_s, one0, ite_false, ite_true, sm]; exact ⟨_, _, rfl, rfl, rfl, hR0⟩
    · rcases isW_c a4 0 1 with ⟨w1, w2, e3⟩ | ⟨-, e3⟩
      · simp only [e1, e2, e3, bd_s, one0, ite_false, ite_true]; exact ⟨_, _, rfl, rfl, rfl, hR0⟩
      · rcases isW_c a4 10 99 with ⟨w1, w2, e4⟩ | ⟨-, e4⟩
        · simp only [e1, e2, e3, e4, bd_s, one0, ite_false, ite_true]; exact ⟨_, _, rfl, rfl, rfl, hR0⟩
        · simp only [e1, e2, e3, e4, bd_s, one0, ite_false, ite_true]; exact ⟨_, _, rfl, rfl, rfl, hR0⟩
  · rcases isW_c a4 0 1 with ⟨w1, w2, e3⟩ | ⟨-, e3⟩
    · simp only [e1, e3, bd_s, one0, ite_false, ite_true]; exact ⟨_, _, rfl, rfl, rfl, hR0⟩
    · rcases isW_c a4 10 99 with ⟨w1, w2, e4⟩ | ⟨-, e4⟩
      · simp only [e1, e3, e4, bd_s, one0, ite_false, ite_true]; exact ⟨_, _, rfl, rfl, rfl, hR0⟩
      · simp only [e1, e3, e4, bd_s, ite_true]; exact ⟨_, _, rfl, rfl, rfl, hR0⟩
set_option maxRecDepth 20000 in
set_option maxHeartbeats 2000000 in
theorem sim_best (E_x1 : Int32) (E_r0 : (Nat → Int32)) (M_x1 : Int32) (M_r0 : (Nat → Int32)) (L_x6 : Int32) (M_x2 : Int32) (L_x7 : Int32) (M_x33 : Int32) (S_x5 : Int32) (S_x6 : Int32) (S_x7 : Int32) (S_x8 : Int32) (S_x9 : Int32) (S_r0 : (Nat → Int32)) (S_r1 : (Nat → Int32)) (S_r2 : (Nat → Int32)) (S_r3 : (Nat → Int32)) (S_r4 : (Nat → Int32)) (M_x12 : Int32) (M_r11 : (Nat → Int32)) (M_r15 : (Nat → Int32)) (M_x18 : Int32) (M_r9 : (Nat → Int32)) (M_r10 : (Nat → Int32)) (H0_x1 : Int32) (H0_x2 : Int32) (H0_r0 : (Nat → Int32)) (H1_x1 : Int32) (H1_x2 : Int32) (H1_r0 : (Nat → Int32)) (H2_x1 : Int32) (H2_x2 : Int32) (H2_r0 : (Nat → Int32)) (H3_x1 : Int32) (H3_x2 : Int32) (H3_r0 : (Nat → Int32)) (M_r30 : (Nat → Int32)) (M_r31 : (Nat → Int32)) (M_r32 : (Nat → Int32)) (T_r0 : (Nat → Int32)) (T_x1 : Int32) (T_x2 : Int32) (T_x3 : Int32) (T_x4 : Int32) (T_x5 : Int32) (T_x6 : Int32) (M_g24 : Int64) (M_g25 : Int64) (M_g26 : Int64) (M_g28 : Int64) (M_r21 : (Nat → Int32)) (M_r22 : (Nat → Int32)) (M_x19 : Int32) (M_x20 : Int32) (M_x23 : Int32) (M_x27 : Int32) (hR : Rel E_x1 E_r0 M_x1 M_r0 L_x6 M_x2 L_x7 M_x33 S_x5 S_x6 S_x7 S_x8 S_x9 S_r0 S_r1 S_r2 S_r3 S_r4 M_x12 M_r11 M_r15 M_x18 M_r9 M_r10 H0_x1 H0_x2 H0_r0 H1_x1 H1_x2 H1_r0 H2_x1 H2_x2 H2_r0 H3_x1 H3_x2 H3_r0 M_r30 M_r31 M_r32) (a1 : Int32) (a2 : Int32) (a3 : Int32) : ∃ (t1 : (Int32 × (Nat → Int32) × Int32 × Int32 × Int32 × Int32 × Int32 × Int32)) (t2 : (Int32 × Int64 × Int64 × Int64 × Int64 × (Nat → Int32) × (Nat → Int32) × Int32 × Int32 × Int32 × Int32)), fX5_best S_r0 S_r1 S_r2 S_r3 S_r4 S_x5 S_x6 S_x7 S_x8 T_r0 T_x1 T_x2 T_x3 T_x4 T_x5 T_x6 a1 a2 a3 = some t1 ∧ fX6_best M_g24 M_g25 M_g26 M_g28 M_r11 M_r15 M_r21 M_r22 M_x12 M_x18 M_x19 M_x20 M_x23 M_x27 a1 a2 a3 = some t2 ∧ t1.1 = t2.1 ∧ Rel E_x1 E_r0 M_x1 M_r0 L_x6 M_x2 L_x7 M_x33 S_x5 S_x6 S_x7 S_x8 S_x9 S_r0 S_r1 S_r2 S_r3 S_r4 M_x12 M_r11 M_r15 M_x18 M_r9 M_r10 H0_x1 H0_x2 H0_r0 H1_x1 H1_x2 H1_r0 H2_x1 H2_x2 H2_r0 H3_x1 H3_x2 H3_r0 M_r30 M_r31 M_r32 := by
  have hR0 := hR
  obtain ⟨-, -, -, ⟨⟨n, hn, rfl, rfl, hs⟩, r0, r1, r2, r3, m1, m2, m3, m4, m5, m6, m7, m8⟩, rfl, -⟩ := hR
  have hB : SB (n, S_r0, S_r1, S_r2, S_r3, S_r4, S_x6, S_x7, S_x8) := ⟨hn, fun s h => (hs s h).2.2.2.2.2, m1, m2, m3, m4, m5, m6⟩
  simp only [fX5_best, fX6_best, isOffer6, in_0_1]
  rcases offer_c a1 a2 with ⟨hk, e1⟩ | e1
  · rcases isW_c a3 0 1 with ⟨-, -, e2⟩ | ⟨-, e2⟩
    · obtain ⟨pf, y1, y2, y3, y4, y5, y6, g1⟩ := best5 hB T_r0 T_x1 T_x2 T_x3 T_x4 T_x5 T_x6 hk
      obtain ⟨u1, u2, u3, u4, cm, so, z1, z2, z3, g2, g3⟩ := best6 (rests_as hs hB r0 r1 r2 hk) M_r21 M_r22 M_g24 M_g25 M_g26 M_x19 M_x20 M_x23
      simp only [e1, e2, bd_s, one0, ite_false, g1, g2]
      rcases bp_spec (n, S_r0, S_r1, S_r2, S_r3, S_r4, S_x6, S_x7, S_x8) a1 a2 100 (by omega) with ⟨b1, b2⟩ | ⟨j, hj, b1, b2⟩
      · simp only [if_pos b1, ite_true]; exact ⟨_, _, rfl, rfl, rfl, hR0⟩
      · have b3 : ¬ (bp (n, S_r0, S_r1, S_r2, S_r3, S_r4, S_x6, S_x7, S_x8) a1 a2 100).1 = -4 := by rw [b1]; exact nI_m4 j (by omega)
        simp only [if_neg b3, one0, ite_false]
        by_cases k0 : a3 = 0
        · simp only [if_pos k0]; exact ⟨_, _, rfl, rfl, rfl, hR0⟩
        · simp only [if_neg k0, fX5_gainAt, b1]
          obtain ⟨pf', g4, -⟩ := make5 hn S_r0 S_r1 S_r2 S_r3 S_r4 S_x6 S_x7 S_x8 pf a1 a2 (nI j)
          simp only [g4, bd_s]
          refine ⟨_, _, rfl, rfl, ?_, hR0⟩
          dsimp only
          rw [b2] at g3
          exact (toI32 g3).symm
    · simp only [e1, e2, bd_s, one0, ite_false, ite_true]; exact ⟨_, _, rfl, rfl, rfl, hR0⟩
  · simp only [e1, bd_s, ite_true]; exact ⟨_, _, rfl, rfl, rfl, hR0⟩
set_option maxRecDepth 20000 in
set_option maxHeartbeats 2000000 in
theorem sim_days (E_x1 : Int32) (E_r0 : (Nat → Int32)) (M_x1 : Int32) (M_r0 : (Nat → Int32)) (L_x6 : Int32) (M_x2 : Int32) (L_x7 : Int32) (M_x33 : Int32) (S_x5 : Int32) (S_x6 : Int32) (S_x7 : Int32) (S_x8 : Int32) (S_x9 : Int32) (S_r0 : (Nat → Int32)) (S_r1 : (Nat → Int32)) (S_r2 : (Nat → Int32)) (S_r3 : (Nat → Int32)) (S_r4 : (Nat → Int32)) (M_x12 : Int32) (M_r11 : (Nat → Int32)) (M_r15 : (Nat → Int32)) (M_x18 : Int32) (M_r9 : (Nat → Int32)) (M_r10 : (Nat → Int32)) (H0_x1 : Int32) (H0_x2 : Int32) (H0_r0 : (Nat → Int32)) (H1_x1 : Int32) (H1_x2 : Int32) (H1_r0 : (Nat → Int32)) (H2_x1 : Int32) (H2_x2 : Int32) (H2_r0 : (Nat → Int32)) (H3_x1 : Int32) (H3_x2 : Int32) (H3_r0 : (Nat → Int32)) (M_r30 : (Nat → Int32)) (M_r31 : (Nat → Int32)) (M_r32 : (Nat → Int32)) (T_r0 : (Nat → Int32)) (T_x1 : Int32) (T_x2 : Int32) (T_x3 : Int32) (T_x4 : Int32) (T_x5 : Int32) (T_x6 : Int32) (M_g24 : Int64) (M_g25 : Int64) (M_g26 : Int64) (M_g28 : Int64) (M_r21 : (Nat → Int32)) (M_r22 : (Nat → Int32)) (M_x19 : Int32) (M_x20 : Int32) (M_x23 : Int32) (M_x27 : Int32) (hR : Rel E_x1 E_r0 M_x1 M_r0 L_x6 M_x2 L_x7 M_x33 S_x5 S_x6 S_x7 S_x8 S_x9 S_r0 S_r1 S_r2 S_r3 S_r4 M_x12 M_r11 M_r15 M_x18 M_r9 M_r10 H0_x1 H0_x2 H0_r0 H1_x1 H1_x2 H1_r0 H2_x1 H2_x2 H2_r0 H3_x1 H3_x2 H3_r0 M_r30 M_r31 M_r32) (a1 : Int32) : ∃ (t1 : (Int32 × (Nat → Int32) × Int32 × Int32 × Int32 × Int32 × Int32 × Int32)) (t2 : (Int32 × Int64 × Int64 × Int64 × Int64 × (Nat → Int32) × (Nat → Int32) × Int32 × Int32 × Int32 × Int32)), fX5_days S_r0 S_r1 S_r2 S_r3 S_r4 S_x5 S_x6 S_x7 S_x8 T_r0 T_x1 T_x2 T_x3 T_x4 T_x5 T_x6 a1 = some t1 ∧ fX6_days M_g24 M_g25 M_g26 M_g28 M_r11 M_r15 M_r21 M_r22 M_x12 M_x18 M_x19 M_x20 M_x23 M_x27 a1 = some t2 ∧ t1.1 = t2.1 ∧ Rel E_x1 E_r0 M_x1 M_r0 L_x6 M_x2 L_x7 M_x33 S_x5 S_x6 S_x7 S_x8 S_x9 S_r0 S_r1 S_r2 S_r3 S_r4 M_x12 M_r11 M_r15 M_x18 M_r9 M_r10 H0_x1 H0_x2 H0_r0 H1_x1 H1_x2 H1_r0 H2_x1 H2_x2 H2_r0 H3_x1 H3_x2 H3_r0 M_r30 M_r31 M_r32 := by
  have hR0 := hR
  obtain ⟨-, -, -, ⟨⟨n, hn, rfl, rfl, hs⟩, r0, r1, r2, r3, m1, m2, m3, m4, m5, m6, m7, m8⟩, rfl, -⟩ := hR
  have hB : SB (n, S_r0, S_r1, S_r2, S_r3, S_r4, S_x6, S_x7, S_x8) := ⟨hn, fun s h => (hs s h).2.2.2.2.2, m1, m2, m3, m4, m5, m6⟩
  simp only [fX5_days, fX6_days, in_0_1]
  rcases isW_c a1 0 1 with ⟨-, -, e2⟩ | ⟨-, e2⟩
  · obtain ⟨t, t', h1, h2, h3⟩ := loop_two (fX5_days_b21 a1 S_r0 S_r1 S_r2 S_r3 S_r4 (nI n) S_x6 S_x7 S_x8) (fX6_days_b21 a1 M_r11 M_r15 (nI n) (-4))
      (fun i v v' => v.2.2.1 = nI i ∧ v'.2.2.1 = nI i ∧ ((v.1 = -1000000004 ∧ v.2.1 = -1000000004 ∧ v'.1 = -4) ∨ ∃ j, j < i ∧ v.1 = nI j ∧ v'.1 = nI j ∧ v'.2.1.toInt = v.2.1.toInt))
      (fun t t' => (t.1 = -1000000004 ∧ t.2.1 = -1000000004 ∧ t'.1 = -4) ∨ ∃ j, j < 11 ∧ t.1 = nI j ∧ t'.1 = nI j ∧ t'.2.1.toInt = t.2.1.toInt) 11 (v := ((-1000000004 : Int32), (-1000000004 : Int32), (0 : Int32), T_r0, T_x1, T_x2, T_x3, T_x4, T_x5, T_x6)) (v' := ((-4 : Int32), (0 : Int64), (0 : Int32), M_g24, M_g25, M_g26, M_g28, M_r21, M_r22, M_x19, M_x20, M_x23, M_x27)) (by omega) ⟨rfl, rfl, Or.inl ⟨rfl, rfl, rfl⟩⟩ (by
      rintro i ⟨b1, b2, b3, y1, y2, y3, y4, y5, y6, y7⟩ ⟨d1, d2, d3, x1, x2, x3, x4, x5, x6, x7, x8, x9, x10⟩ hi ⟨q1, q2, q3⟩
      dsimp only at q1 q2 q3
      subst q1; subst q2
      have hk : VO (3 : Int32) (nI i) := vo_3 hi
      have hc : ¬ (11 : Int32) ≤ nI i := nle (n := 11) hi (by omega)
      have hc' : ¬ (10 : Int32) < nI i := by
        have z := hc
        rw [fa_le, nI_toInt (by omega)] at z
        rw [fa_lt, nI_toInt (by omega)]
        have y1 : (11 : Int32).toInt = 11 := rfl
        have y2 : (10 : Int32).toInt = 10 := rfl
        omega
      obtain ⟨pf, w1, w2, w3, w4, w5, w6, g1⟩ := best5 hB y1 y2 y3 y4 y5 y6 y7 hk
      obtain ⟨u1, u2, u3, u4, cm, so, z1, z2, z3, g2, g3⟩ := best6 (rests_as hs hB r0 r1 r2 hk) x5 x6 x1 x2 x3 x7 x8 x9
      unfold fX5_days_b21 fX6_days_b21
      dsimp only
      rw [if_neg hc, if_neg hc', g1, g2, bd_s, bd_s]
      dsimp only
      rcases bp_spec (n, S_r0, S_r1, S_r2, S_r3, S_r4, S_x6, S_x7, S_x8) 3 (nI i) 100 (by omega) with ⟨c1, c2⟩ | ⟨j, hj, c1, c2⟩
      · simp only [if_pos c1, ite_true, bd_s]
        refine ⟨_, _, rfl, rfl, nI_1 i, nI_1 i, ?_⟩
        rcases q3 with q3 | ⟨j, a, b⟩
        · exact Or.inl q3
        · exact Or.inr ⟨j, by omega, b⟩
      · have b3 : ¬ (bp (n, S_r0, S_r1, S_r2, S_r3, S_r4, S_x6, S_x7, S_x8) 3 (nI i) 100).1 = -4 := by rw [c1]; exact nI_m4 j (by omega)
        simp only [if_neg b3, one0, ite_false, fX5_gainAt]
        simp only [c1]
        obtain ⟨pf', g4, -⟩ := make5 hn S_r0 S_r1 S_r2 S_r3 S_r4 S_x6 S_x7 S_x8 pf 3 (nI i) (nI j)
        simp only [g4, bd_s]
        rw [c2] at g3
        have gb := gained_b hB (p := nI j) hk
        generalize oGained (n, S_r0, S_r1, S_r2, S_r3, S_r4, S_x6, S_x7, S_x8) 3 (nI i) (nI j) = G at gb g3 ⊢
        rcases q3 with ⟨q3, q4, q5⟩ | ⟨j', a, b, c, d⟩
        · subst q3; subst q4; subst q5
          have f : ¬ G ≤ (-1000000004 : Int32) := by
            rw [fa_le]
            have y1 : (-1000000004 : Int32).toInt = -1000000004 := rfl
            omega
          simp only [if_neg f, ite_true, bd_s]
          refine ⟨_, _, rfl, rfl, ?_⟩; exact ⟨nI_1 i, nI_1 i, Or.inr ⟨i, by omega, rfl, rfl, g3⟩⟩
        · have c4 : ¬ d1 = -4 := by rw [c]; exact nI_m4 j' (by omega)
          have ec : lg_cmp u4 d2 ≤ 0 ↔ G ≤ b2 := by
            have z := cmp_gt u4 d2
            rw [fa_le]
            have y : (0 : Int32).toInt = 0 := rfl
            rw [fa_lt, y, fa_lt64, g3, d] at z
            rw [fa_le, y]
            omega
          simp only [if_neg c4]
          by_cases f : G ≤ b2
          · simp only [if_pos f, if_pos (ec.mpr f), bd_s]
            refine ⟨_, _, rfl, rfl, ?_⟩; exact ⟨nI_1 i, nI_1 i, Or.inr ⟨j', by omega, b, c, d⟩⟩
          · simp only [if_neg f, if_neg (fun q => f (ec.mp q)), bd_s]
            refine ⟨_, _, rfl, rfl, ?_⟩; exact ⟨nI_1 i, nI_1 i, Or.inr ⟨i, by omega, rfl, rfl, g3⟩⟩) (by
      rintro ⟨b1, b2, b3, y⟩ ⟨d1, d2, d3, x⟩ ⟨q1, q2, q3⟩
      dsimp only at q1 q2 q3
      subst q1; subst q2
      unfold fX5_days_b21 fX6_days_b21
      dsimp only
      rw [if_pos (show (10 : Int32) < nI 11 by decide), if_pos (show (11 : Int32) ≤ nI 11 by decide)]
      exact ⟨_, _, rfl, rfl, q3⟩)
    simp only [e2, bd_s, one0, ite_false, h1, h2]
    rcases h3 with ⟨f1, f2, f3⟩ | ⟨j, hj, f1, f2, f3⟩
    · simp only [if_pos f3]
      by_cases k0 : a1 = 0
      · simp only [if_pos k0]; exact ⟨_, _, rfl, rfl, f1, hR0⟩
      · simp only [if_neg k0]; exact ⟨_, _, rfl, rfl, f2, hR0⟩
    · have f4 : ¬ t'.1 = -4 := by rw [f2]; exact nI_m4 j (by omega)
      simp only [if_neg f4]
      by_cases k0 : a1 = 0
      · simp only [if_pos k0]; exact ⟨_, _, rfl, rfl, by rw [f1, f2], hR0⟩
      · simp only [if_neg k0]; exact ⟨_, _, rfl, rfl, (toI32 f3).symm, hR0⟩
  · simp only [e2, bd_s, ite_true]; exact ⟨_, _, rfl, rfl, rfl, hR0⟩
