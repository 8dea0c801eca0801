set_option maxRecDepth 20000 in
set_option maxHeartbeats 2000000 in
theorem sim_laws (E_x1 : Int32) (E_r0 : (Nat → Int32)) (M_x1 : Int32) (M_r0 : (Nat → Int32)) (L_x6 : Int32) (M_x2 : Int32) (L_x7 : Int32) (M_x33 : Int32) (S_x5 : Int32) (S_x6 : Int32) (S_x7 : Int32) (S_x8 : Int32) (S_x9 : Int32) (S_r0 : (Nat → Int32)) (S_r1 : (Nat → Int32)) (S_r2 : (Nat → Int32)) (S_r3 : (Nat → Int32)) (S_r4 : (Nat → Int32)) (M_x12 : Int32) (M_r11 : (Nat → Int32)) (M_r15 : (Nat → Int32)) (M_x18 : Int32) (M_r9 : (Nat → Int32)) (M_r10 : (Nat → Int32)) (H0_x1 : Int32) (H0_x2 : Int32) (H0_r0 : (Nat → Int32)) (H1_x1 : Int32) (H1_x2 : Int32) (H1_r0 : (Nat → Int32)) (H2_x1 : Int32) (H2_x2 : Int32) (H2_r0 : (Nat → Int32)) (H3_x1 : Int32) (H3_x2 : Int32) (H3_r0 : (Nat → Int32)) (M_r30 : (Nat → Int32)) (M_r31 : (Nat → Int32)) (M_r32 : (Nat → Int32)) (P_r0 : (Nat → Int32)) (P_r1 : (Nat → Int32)) (P_r2 : (Nat → Int32)) (P_r3 : (Nat → Int32)) (P_r4 : (Nat → Int32)) (P_x5 : Int32) (P_x6 : Int32) (P_x7 : Int32) (P_x8 : Int32) (P_x9 : Int32) (T_r0 : (Nat → Int32)) (T_x1 : Int32) (T_x2 : Int32) (T_x3 : Int32) (T_x4 : Int32) (T_x5 : Int32) (T_x6 : Int32) (M_g24 : Int64) (M_g25 : Int64) (M_g26 : Int64) (M_g28 : Int64) (M_r21 : (Nat → Int32)) (M_r22 : (Nat → Int32)) (M_x19 : Int32) (M_x20 : Int32) (M_x23 : Int32) (M_x27 : Int32) (M_x29 : Int32) (hR : Rel E_x1 E_r0 M_x1 M_r0 L_x6 M_x2 L_x7 M_x33 S_x5 S_x6 S_x7 S_x8 S_x9 S_r0 S_r1 S_r2 S_r3 S_r4 M_x12 M_r11 M_r15 M_x18 M_r9 M_r10 H0_x1 H0_x2 H0_r0 H1_x1 H1_x2 H1_r0 H2_x1 H2_x2 H2_r0 H3_x1 H3_x2 H3_r0 M_r30 M_r31 M_r32) (a1 : Int32) (a2 : Int32) (a3 : Int32) : ∃ (t1 : (Int32 × (Nat → Int32) × (Nat → Int32) × (Nat → Int32) × (Nat → Int32) × (Nat → Int32) × Int32 × Int32 × Int32 × Int32 × Int32 × (Nat → Int32) × Int32 × Int32 × Int32 × Int32 × Int32 × Int32)) (t2 : (Int32 × Int64 × Int64 × Int64 × Int64 × (Nat → Int32) × (Nat → Int32) × Int32 × Int32 × Int32 × Int32 × Int32 × Int32)), fX5_laws P_r0 P_r1 P_r2 P_r3 P_r4 P_x5 P_x6 P_x7 P_x8 P_x9 S_r0 S_r1 S_r2 S_r3 S_r4 S_x5 S_x6 S_x7 S_x8 S_x9 T_r0 T_x1 T_x2 T_x3 T_x4 T_x5 T_x6 a1 a2 a3 = some t1 ∧ fX6_laws M_g24 M_g25 M_g26 M_g28 M_r11 M_r15 M_r21 M_r22 M_x12 M_x18 M_x19 M_x20 M_x23 M_x27 M_x29 a1 a2 a3 = some t2 ∧ t1.1 = t2.1 ∧ Rel E_x1 E_r0 M_x1 M_r0 L_x6 M_x2 L_x7 M_x33 S_x5 S_x6 S_x7 S_x8 S_x9 S_r0 S_r1 S_r2 S_r3 S_r4 M_x12 M_r11 M_r15 t2.2.2.2.2.2.2.2.1 M_r9 M_r10 H0_x1 H0_x2 H0_r0 H1_x1 H1_x2 H1_r0 H2_x1 H2_x2 H2_r0 H3_x1 H3_x2 H3_r0 M_r30 M_r31 M_r32 := by
  have hR0 := hR
  obtain ⟨-, -, -, ⟨⟨n, hn, rfl, rfl, hs⟩, r0, r1, r2, r3, m1, m2, m3, m4, m5, m6, m7, m8⟩, rfl, -⟩ := hR
  have hB : SB (n, S_r0, S_r1, S_r2, S_r3, S_r4, S_x6, S_x7, S_x8) := ⟨hn, fun s h => (hs s h).2.2.2.2.2, m1, m2, m3, m4, m5, m6⟩
  simp only [fX5_laws, fX6_laws, in_0_99, in_0_1]
  rcases go_c hn a1 with ⟨b, hb, rfl, h4, e1, e1'⟩ | ⟨e1, e1'⟩
  · rcases isW_c a2 0 99 with ⟨w1, w2, e2⟩ | ⟨-, e2⟩
    · rcases isW_c a3 0 1 with ⟨-, -, e3⟩ | ⟨-, e3⟩
      · have hw : VP a2 := by
          rw [fa_le] at w1 w2
          exact ⟨w1, w2⟩
        by_cases c : nI b &&& (4 : Int32) = 0
        · obtain ⟨q, u, g1, g2, g3, g4, t, g5, g6⟩ := law_A P_r0 P_r1 P_r2 P_r3 P_r4 P_x5 P_x6 P_x7 P_x8 P_x9 T_r0 T_x1 T_x2 T_x3 T_x4 T_x5 T_x6 M_g24 M_g25 M_g26 M_r21 M_r22 M_x19 M_x20 M_x23 S_x9 hs hB r0 r1 r2 hb c hw
          by_cases k0 : a3 = 0
          · simp only [e1, e1', e2, e3, bd_s, one0, ite_false, g2, if_pos k0, g5]
            refine ⟨_, _, rfl, rfl, g6, ?_⟩
            dsimp only
            rw [g4]
            exact hR0
          · simp only [e1, e1', e2, e3, bd_s, one0, ite_false, g2, if_neg k0, if_pos c, fX5_leftBya, kd_5 b hb, g1, g3]
            by_cases k1 : u.2.2.2.2.2.2.2.2.2.2.1 = -4
            · simp only [if_pos k1]
              refine ⟨_, _, rfl, rfl, rfl, ?_⟩
              dsimp only
              rw [g4]
              exact hR0
            · simp only [if_neg k1]
              refine ⟨_, _, rfl, rfl, rfl, ?_⟩
              dsimp only
              rw [g4]
              exact hR0
        · obtain ⟨m, rfl⟩ : ∃ m, n = m + 1 := ⟨n - 1, by rcases h4 with h | h; exact absurd h c; omega⟩
          obtain ⟨l, q, u, g0, g1, g2, g3, g4, t, g5, g6⟩ := law_B P_r0 P_r1 P_r2 P_r3 P_r4 P_x5 P_x6 P_x7 P_x8 P_x9 T_r0 T_x1 T_x2 T_x3 T_x4 T_x5 T_x6 M_g24 M_g25 M_g26 M_r21 M_r22 M_x19 M_x20 M_x23 S_x9 hn hs hB.2.2 r0 r1 r2 hb c hw
          by_cases k0 : a3 = 0
          · simp only [e1, e1', e2, e3, bd_s, one0, ite_false, g2, if_pos k0, g5]
            refine ⟨_, _, rfl, rfl, g6, ?_⟩
            dsimp only
            rw [g4]
            exact hR0
          · simp only [e1, e1', e2, e3, bd_s, one0, ite_false, g2, if_neg k0, if_neg c, g0, kd_5 b hb, g1, g3]
            by_cases k1 : u.2.2.2.2.2.2.2.2.2.2.1 = -4
            · simp only [if_pos k1]
              refine ⟨_, _, rfl, rfl, rfl, ?_⟩
              dsimp only
              rw [g4]
              exact hR0
            · simp only [if_neg k1]
              refine ⟨_, _, rfl, rfl, rfl, ?_⟩
              dsimp only
              rw [g4]
              exact hR0
      · simp only [e1, e1', e2, e3, bd_s, one0, ite_false, ite_true]; exact ⟨_, _, rfl, rfl, rfl, hR0⟩
    · simp only [e1, e1', e2, bd_s, one0, ite_false, ite_true]; exact ⟨_, _, rfl, rfl, rfl, hR0⟩
  · simp only [e1, e1', bd_s, ite_true]; exact ⟨_, _, rfl, rfl, rfl, hR0⟩
set_option maxRecDepth 20000 in
set_option maxHeartbeats 2000000 in
theorem sim_bestLaws (E_x1 : Int32) (E_r0 : (Nat → Int32)) (M_x1 : Int32) (M_r0 : (Nat → Int32)) (L_x6 : Int32) (M_x2 : Int32) (L_x7 : Int32) (M_x33 : Int32) (S_x5 : Int32) (S_x6 : Int32) (S_x7 : Int32) (S_x8 : Int32) (S_x9 : Int32) (S_r0 : (Nat → Int32)) (S_r1 : (Nat → Int32)) (S_r2 : (Nat → Int32)) (S_r3 : (Nat → Int32)) (S_r4 : (Nat → Int32)) (M_x12 : Int32) (M_r11 : (Nat → Int32)) (M_r15 : (Nat → Int32)) (M_x18 : Int32) (M_r9 : (Nat → Int32)) (M_r10 : (Nat → Int32)) (H0_x1 : Int32) (H0_x2 : Int32) (H0_r0 : (Nat → Int32)) (H1_x1 : Int32) (H1_x2 : Int32) (H1_r0 : (Nat → Int32)) (H2_x1 : Int32) (H2_x2 : Int32) (H2_r0 : (Nat → Int32)) (H3_x1 : Int32) (H3_x2 : Int32) (H3_r0 : (Nat → Int32)) (M_r30 : (Nat → Int32)) (M_r31 : (Nat → Int32)) (M_r32 : (Nat → Int32)) (P_r0 : (Nat → Int32)) (P_r1 : (Nat → Int32)) (P_r2 : (Nat → Int32)) (P_r3 : (Nat → Int32)) (P_r4 : (Nat → Int32)) (P_x5 : Int32) (P_x6 : Int32) (P_x7 : Int32) (P_x8 : Int32) (P_x9 : Int32) (T_r0 : (Nat → Int32)) (T_x1 : Int32) (T_x2 : Int32) (T_x3 : Int32) (T_x4 : Int32) (T_x5 : Int32) (T_x6 : Int32) (M_g24 : Int64) (M_g25 : Int64) (M_g26 : Int64) (M_g28 : Int64) (M_r21 : (Nat → Int32)) (M_r22 : (Nat → Int32)) (M_x19 : Int32) (M_x20 : Int32) (M_x23 : Int32) (M_x27 : Int32) (M_x29 : Int32) (hR : Rel E_x1 E_r0 M_x1 M_r0 L_x6 M_x2 L_x7 M_x33 S_x5 S_x6 S_x7 S_x8 S_x9 S_r0 S_r1 S_r2 S_r3 S_r4 M_x12 M_r11 M_r15 M_x18 M_r9 M_r10 H0_x1 H0_x2 H0_r0 H1_x1 H1_x2 H1_r0 H2_x1 H2_x2 H2_r0 H3_x1 H3_x2 H3_r0 M_r30 M_r31 M_r32) (a1 : Int32) (a2 : Int32) : ∃ (t1 : (Int32 × (Nat → Int32) × (Nat → Int32) × (Nat → Int32) × (Nat → Int32) × (Nat → Int32) × Int32 × Int32 × Int32 × Int32 × Int32 × (Nat → Int32) × Int32 × Int32 × Int32 × Int32 × Int32 × Int32)) (t2 : (Int32 × Int64 × Int64 × Int64 × Int64 × (Nat → Int32) × (Nat → Int32) × Int32 × Int32 × Int32 × Int32 × Int32 × Int32)), fX5_bestLaws P_r0 P_r1 P_r2 P_r3 P_r4 P_x5 P_x6 P_x7 P_x8 P_x9 S_r0 S_r1 S_r2 S_r3 S_r4 S_x5 S_x6 S_x7 S_x8 S_x9 T_r0 T_x1 T_x2 T_x3 T_x4 T_x5 T_x6 a1 a2 = some t1 ∧ fX6_bestLaws M_g24 M_g25 M_g26 M_g28 M_r11 M_r15 M_r21 M_r22 M_x12 M_x18 M_x19 M_x20 M_x23 M_x27 M_x29 a1 a2 = some t2 ∧ t1.1 = t2.1 ∧ Rel E_x1 E_r0 M_x1 M_r0 L_x6 M_x2 L_x7 M_x33 S_x5 S_x6 S_x7 S_x8 S_x9 S_r0 S_r1 S_r2 S_r3 S_r4 M_x12 M_r11 M_r15 t2.2.2.2.2.2.2.2.1 M_r9 M_r10 H0_x1 H0_x2 H0_r0 H1_x1 H1_x2 H1_r0 H2_x1 H2_x2 H2_r0 H3_x1 H3_x2 H3_r0 M_r30 M_r31 M_r32 := by
  have hR0 := hR
  obtain ⟨-, -, -, ⟨⟨n, hn, rfl, rfl, hs⟩, r0, r1, r2, r3, m1, m2, m3, m4, m5, m6, m7, m8⟩, rfl, -⟩ := hR
  have hB : SB (n, S_r0, S_r1, S_r2, S_r3, S_r4, S_x6, S_x7, S_x8) := ⟨hn, fun s h => (hs s h).2.2.2.2.2, m1, m2, m3, m4, m5, m6⟩
  simp only [fX5_bestLaws, fX6_bestLaws, in_0_99, in_0_1]
  rcases isW_c a1 0 99 with ⟨w1, w2, e2⟩ | ⟨-, e2⟩
  · rcases isW_c a2 0 1 with ⟨-, -, e3⟩ | ⟨-, e3⟩
    · have hw : VP a1 := by
        rw [fa_le] at w1 w2
        exact ⟨w1, w2⟩
      obtain ⟨t0, u0, f1, f2, f3, f4⟩ := law_out P_r0 P_r1 P_r2 P_r3 P_r4 P_x5 P_x6 P_x7 P_x8 P_x9 T_r0 T_x1 T_x2 T_x3 T_x4 T_x5 T_x6 M_g24 M_g25 M_g26 M_r21 M_r22 M_x19 M_x20 M_x23 S_x9 hs hB r0 r1 r2 (b := 0) (by omega) (Or.inl rfl) hw
      rw [nI_0] at f1 f2
      obtain ⟨t, t', h1, h2, h3⟩ := loop_twoF (fX5_bestLaws_b35 a1 a2 (nI n) S_r0 S_r1 S_r2 S_r3 S_r4 S_x6 S_x7 S_x8 S_x9) (fX6_bestLaws_b34 a1 a2 (nI n) M_r11 M_r15)
        (fun i v v' => v.1 = v'.1 ∧ v.2.1 = v'.2.1 ∧ v.2.2.1 = nI (i + 1) ∧ v'.2.2.1 = nI (i + 1) ∧ ¬ v'.1 = -4 ∧ v'.2.2.2.2.2.2.2.2.2.1 = -4)
        (fun t t' => t.1 = t'.1 ∧ t.2.1 = t'.2.1 ∧ t'.2.2.2.2.2.2.2.2.1 = -4) 15 (by
        rintro i ⟨b1, b2, b3, p0, p1, p2, p3, p4, p5, p6, p7, p8, p9, y0, y1, y2, y3, y4, y5, y6⟩ ⟨d1, d2, d3, g1, g2, g3, g4, c0, s0, lo, x1, x2, x3, x4, x5⟩ hi ⟨q1, q2, q3, q4, q5, q6⟩
        dsimp only at q1 q2 q3 q4 q5 q6
        subst q1; subst q2; subst q3; subst q4; subst q6
        have hc : ¬ (16 : Int32) ≤ nI (i + 1) := nle (n := 16) (by omega) (by omega)
        unfold fX5_bestLaws_b35 fX6_bestLaws_b34
        dsimp only
        rw [if_neg hc, if_neg hc, nI_1]
        rcases go_c hn (nI (i + 1)) with ⟨b, hb, eb, h4, e1, e1'⟩ | ⟨e1, e1'⟩
        · have eb' : b = i + 1 := ((nI_eq (by omega) (by omega)).mp eb).symm
          subst eb'
          obtain ⟨t, u, k1, k2, k3, k4⟩ := law_out p0 p1 p2 p3 p4 p5 p6 p7 p8 p9 y0 y1 y2 y3 y4 y5 y6 g1 g2 g3 c0 s0 x1 x2 x3 S_x9 hs hB r0 r1 r2 hb h4 hw
          rw [e1, e1', bd_s, bd_s, if_neg (by decide), if_neg (by decide), k1, k2, bd_s, bd_s, if_neg q5, ← k3]
          by_cases c : t.1 ≤ b2
          · rw [if_pos c, if_pos c, bd_s, bd_s]
            exact ⟨_, _, rfl, rfl, rfl, rfl, rfl, rfl, q5, k4⟩
          · rw [if_neg c, if_neg c, bd_s, bd_s]
            exact ⟨_, _, rfl, rfl, rfl, rfl, rfl, rfl, nI_m4 _ (by omega), k4⟩
        · rw [e1, e1', bd_s, bd_s, if_pos rfl, if_pos rfl, bd_s, bd_s]
          exact ⟨_, _, rfl, rfl, rfl, rfl, rfl, rfl, q5, rfl⟩) (by
        rintro ⟨b1, b2, b3, p0, p1, p2, p3, p4, p5, p6, p7, p8, p9, y0, y1, y2, y3, y4, y5, y6⟩ ⟨d1, d2, d3, g1, g2, g3, g4, c0, s0, lo, x1, x2, x3, x4, x5⟩ ⟨q1, q2, q3, q4, q5, q6⟩
        dsimp only at q1 q2 q3 q4 q5 q6
        subst q3; subst q4
        unfold fX5_bestLaws_b35 fX6_bestLaws_b34
        dsimp only
        rw [if_pos (show (16 : Int32) ≤ nI (15 + 1) by decide), if_pos (show (16 : Int32) ≤ nI (15 + 1) by decide)]
        exact ⟨_, _, rfl, rfl, q1, q2, q6⟩) 15 0 ((0 : Int32), t0.1, (1 : Int32), t0.2.1, t0.2.2.1, t0.2.2.2.1, t0.2.2.2.2.1, t0.2.2.2.2.2.1, t0.2.2.2.2.2.2.1, t0.2.2.2.2.2.2.2.1, t0.2.2.2.2.2.2.2.2.1, t0.2.2.2.2.2.2.2.2.2.1, t0.2.2.2.2.2.2.2.2.2.2.1, t0.2.2.2.2.2.2.2.2.2.2.2.1, t0.2.2.2.2.2.2.2.2.2.2.2.2.1, t0.2.2.2.2.2.2.2.2.2.2.2.2.2.1, t0.2.2.2.2.2.2.2.2.2.2.2.2.2.2.1, t0.2.2.2.2.2.2.2.2.2.2.2.2.2.2.2.1, t0.2.2.2.2.2.2.2.2.2.2.2.2.2.2.2.2.1, t0.2.2.2.2.2.2.2.2.2.2.2.2.2.2.2.2.2)
        ((0 : Int32), u0.2.2.2.2.2.2.2.2.2.2.2, (1 : Int32), u0.1, u0.2.1, u0.2.2.1, u0.2.2.2.1, u0.2.2.2.2.1, u0.2.2.2.2.2.1, u0.2.2.2.2.2.2.1, u0.2.2.2.2.2.2.2.1, u0.2.2.2.2.2.2.2.2.1, u0.2.2.2.2.2.2.2.2.2.1, u0.2.2.2.2.2.2.2.2.2.2.1, u0.2.2.2.2.2.2.2.2.2.2.2) 1000 999 (by omega) (by omega) (by omega) ⟨rfl, f3, rfl, rfl, (show ¬ (0 : Int32) = -4 by decide), f4⟩
      have hf : loopF (fX6_bestLaws_b34 a1 a2 (nI n) M_r11 M_r15) 1000 ((-4 : Int32), (0 : Int32), (0 : Int32), M_g24, M_g25, M_g26, M_g28, M_r21, M_r22, (-4 : Int32), M_x19, M_x20, M_x23, M_x27, M_x29) = some t' := by
        have hB1 : fX6_bestLaws_b34 a1 a2 (nI n) M_r11 M_r15 ((-4 : Int32), (0 : Int32), (0 : Int32), M_g24, M_g25, M_g26, M_g28, M_r21, M_r22, (-4 : Int32), M_x19, M_x20, M_x23, M_x27, M_x29) = some (.inl ((0 : Int32), u0.2.2.2.2.2.2.2.2.2.2.2, (1 : Int32), u0.1, u0.2.1, u0.2.2.1, u0.2.2.2.1, u0.2.2.2.2.1, u0.2.2.2.2.2.1, u0.2.2.2.2.2.2.1, u0.2.2.2.2.2.2.2.1, u0.2.2.2.2.2.2.2.2.1, u0.2.2.2.2.2.2.2.2.2.1, u0.2.2.2.2.2.2.2.2.2.2.1, u0.2.2.2.2.2.2.2.2.2.2.2)) := by
          unfold fX6_bestLaws_b34
          dsimp only
          rw [if_neg (show ¬ (16 : Int32) ≤ 0 by decide), law_first n (by omega), bd_s, if_neg (by decide), f2, bd_s, if_pos rfl, bd_s]
          rfl
        exact (loop_go (n := 999) hB1).trans h2
      simp only [e2, e3, bd_s, one0, ite_false, f1, h1, hf]
      obtain ⟨k1, k2, k3⟩ := h3
      by_cases k0 : a2 = 0
      · simp only [if_pos k0]
        refine ⟨_, _, rfl, rfl, k1, ?_⟩
        dsimp only
        rw [k3]
        exact hR0
      · simp only [if_neg k0]
        refine ⟨_, _, rfl, rfl, k2, ?_⟩
        dsimp only
        rw [k3]
        exact hR0
    · simp only [e2, e3, bd_s, one0, ite_false, ite_true]; exact ⟨_, _, rfl, rfl, rfl, hR0⟩
  · simp only [e2, bd_s, ite_true]; exact ⟨_, _, rfl, rfl, rfl, hR0⟩
