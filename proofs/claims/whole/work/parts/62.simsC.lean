set_option maxRecDepth 20000 in
set_option maxHeartbeats 2000000 in
theorem sim_comes (E_x1 : Int32) (E_r0 : (Nat → Int32)) (M_x1 : Int32) (M_r0 : (Nat → Int32)) (L_x6 : Int32) (M_x2 : Int32) (L_x7 : Int32) (M_x33 : Int32) (S_x5 : Int32) (S_x6 : Int32) (S_x7 : Int32) (S_x8 : Int32) (S_x9 : Int32) (S_r0 : (Nat → Int32)) (S_r1 : (Nat → Int32)) (S_r2 : (Nat → Int32)) (S_r3 : (Nat → Int32)) (S_r4 : (Nat → Int32)) (M_x12 : Int32) (M_r11 : (Nat → Int32)) (M_r15 : (Nat → Int32)) (M_x18 : Int32) (M_r9 : (Nat → Int32)) (M_r10 : (Nat → Int32)) (H0_x1 : Int32) (H0_x2 : Int32) (H0_r0 : (Nat → Int32)) (H1_x1 : Int32) (H1_x2 : Int32) (H1_r0 : (Nat → Int32)) (H2_x1 : Int32) (H2_x2 : Int32) (H2_r0 : (Nat → Int32)) (H3_x1 : Int32) (H3_x2 : Int32) (H3_r0 : (Nat → Int32)) (M_r30 : (Nat → Int32)) (M_r31 : (Nat → Int32)) (M_r32 : (Nat → Int32)) (T_r0 : (Nat → Int32)) (T_x1 : Int32) (T_x2 : Int32) (T_x3 : Int32) (T_x4 : Int32) (T_x5 : Int32) (T_x6 : Int32) (M_g24 : Int64) (M_g25 : Int64) (M_g26 : Int64) (M_r21 : (Nat → Int32)) (M_r22 : (Nat → Int32)) (M_x19 : Int32) (M_x20 : Int32) (M_x23 : Int32) (hR : Rel E_x1 E_r0 M_x1 M_r0 L_x6 M_x2 L_x7 M_x33 S_x5 S_x6 S_x7 S_x8 S_x9 S_r0 S_r1 S_r2 S_r3 S_r4 M_x12 M_r11 M_r15 M_x18 M_r9 M_r10 H0_x1 H0_x2 H0_r0 H1_x1 H1_x2 H1_r0 H2_x1 H2_x2 H2_r0 H3_x1 H3_x2 H3_r0 M_r30 M_r31 M_r32) (a1 : Int32) (a2 : Int32) (a3 : Int32) (a4 : Int32) : ∃ (t1 : (Int32 × (Nat → Int32) × Int32 × Int32 × Int32 × Int32 × Int32 × Int32)) (t2 : (Int32 × Int64 × Int64 × Int64 × (Nat → Int32) × (Nat → Int32) × Int32 × Int32 × Int32)), fX5_comes S_r0 S_r1 S_r2 S_r3 S_r4 S_x5 S_x6 S_x7 S_x8 T_r0 T_x1 T_x2 T_x3 T_x4 T_x5 T_x6 a1 a2 a3 a4 = some t1 ∧ fX6_comes M_g24 M_g25 M_g26 M_r11 M_r15 M_r21 M_r22 M_x12 M_x18 M_x19 M_x20 M_x23 a1 a2 a3 a4 = some t2 ∧ t1.1 = t2.1 ∧ Rel E_x1 E_r0 M_x1 M_r0 L_x6 M_x2 L_x7 M_x33 S_x5 S_x6 S_x7 S_x8 S_x9 S_r0 S_r1 S_r2 S_r3 S_r4 M_x12 M_r11 M_r15 M_x18 M_r9 M_r10 H0_x1 H0_x2 H0_r0 H1_x1 H1_x2 H1_r0 H2_x1 H2_x2 H2_r0 H3_x1 H3_x2 H3_r0 M_r30 M_r31 M_r32 := by
  have hR0 := hR
  obtain ⟨-, -, -, ⟨⟨n, hn, rfl, rfl, hs⟩, r0, r1, r2, r3, m1, m2, m3, m4, m5, m6, m7, m8⟩, rfl, -⟩ := hR
  have hB : SB (n, S_r0, S_r1, S_r2, S_r3, S_r4, S_x6, S_x7, S_x8) := ⟨hn, fun s h => (hs s h).2.2.2.2.2, m1, m2, m3, m4, m5, m6⟩
  simp only [fX5_comes, fX6_comes, isOffer6, isPrice6, in_0_2]
  rcases offer_c a1 a2 with ⟨hk, e1⟩ | e1
  · rcases price_c a3 with ⟨hp, e2⟩ | e2
    · rcases isW_c a4 0 2 with ⟨-, -, e3⟩ | ⟨-, e3⟩
      · obtain ⟨pf, h1, -⟩ := make5 hn S_r0 S_r1 S_r2 S_r3 S_r4 S_x6 S_x7 S_x8 T_r0 a1 a2 a3
        obtain ⟨tu, td, gl, cm, so, h2, -⟩ := lay6 hs hB r0 r1 r2 M_r21 M_r22 hk hp
        simp only [e1, e2, e3, bd_s, one0, ite_false, h1, h2]
        by_cases k0 : a4 = 0
        · simp only [if_pos k0]; exact ⟨_, _, rfl, rfl, rfl, hR0⟩
        · simp only [if_neg k0]
          by_cases k1 : a4 = 1
          · simp only [if_pos k1]; exact ⟨_, _, rfl, rfl, rfl, hR0⟩
          · simp only [if_neg k1]; exact ⟨_, _, rfl, rfl, rfl, hR0⟩
      · simp only [e1, e2, e3, bd_s, one0, ite_false, ite_true]; exact ⟨_, _, rfl, rfl, rfl, hR0⟩
    · simp only [e1, e2, bd_s, one0, ite_false, ite_true]; exact ⟨_, _, rfl, rfl, rfl, hR0⟩
  · simp only [e1, bd_s, ite_true]; exact ⟨_, _, rfl, rfl, rfl, hR0⟩
set_option maxRecDepth 20000 in
set_option maxHeartbeats 2000000 in
theorem sim_sold (E_x1 : Int32) (E_r0 : (Nat → Int32)) (M_x1 : Int32) (M_r0 : (Nat → Int32)) (L_x6 : Int32) (M_x2 : Int32) (L_x7 : Int32) (M_x33 : Int32) (S_x5 : Int32) (S_x6 : Int32) (S_x7 : Int32) (S_x8 : Int32) (S_x9 : Int32) (S_r0 : (Nat → Int32)) (S_r1 : (Nat → Int32)) (S_r2 : (Nat → Int32)) (S_r3 : (Nat → Int32)) (S_r4 : (Nat → Int32)) (M_x12 : Int32) (M_r11 : (Nat → Int32)) (M_r15 : (Nat → Int32)) (M_x18 : Int32) (M_r9 : (Nat → Int32)) (M_r10 : (Nat → Int32)) (H0_x1 : Int32) (H0_x2 : Int32) (H0_r0 : (Nat → Int32)) (H1_x1 : Int32) (H1_x2 : Int32) (H1_r0 : (Nat → Int32)) (H2_x1 : Int32) (H2_x2 : Int32) (H2_r0 : (Nat → Int32)) (H3_x1 : Int32) (H3_x2 : Int32) (H3_r0 : (Nat → Int32)) (M_r30 : (Nat → Int32)) (M_r31 : (Nat → Int32)) (M_r32 : (Nat → Int32)) (T_r0 : (Nat → Int32)) (T_x1 : Int32) (T_x2 : Int32) (T_x3 : Int32) (T_x4 : Int32) (T_x5 : Int32) (T_x6 : Int32) (M_g24 : Int64) (M_g25 : Int64) (M_g26 : Int64) (M_r21 : (Nat → Int32)) (M_r22 : (Nat → Int32)) (M_x19 : Int32) (M_x20 : Int32) (M_x23 : Int32) (hR : Rel E_x1 E_r0 M_x1 M_r0 L_x6 M_x2 L_x7 M_x33 S_x5 S_x6 S_x7 S_x8 S_x9 S_r0 S_r1 S_r2 S_r3 S_r4 M_x12 M_r11 M_r15 M_x18 M_r9 M_r10 H0_x1 H0_x2 H0_r0 H1_x1 H1_x2 H1_r0 H2_x1 H2_x2 H2_r0 H3_x1 H3_x2 H3_r0 M_r30 M_r31 M_r32) (a1 : Int32) (a2 : Int32) (a3 : Int32) (a4 : Int32) : ∃ (t1 : (Int32 × (Nat → Int32) × Int32 × Int32 × Int32 × Int32 × Int32 × Int32)) (t2 : (Int32 × Int64 × Int64 × Int64 × (Nat → Int32) × (Nat → Int32) × Int32 × Int32 × Int32)), fX5_sold S_r0 S_r1 S_r2 S_r3 S_r4 S_x5 S_x6 S_x7 S_x8 T_r0 T_x1 T_x2 T_x3 T_x4 T_x5 T_x6 a1 a2 a3 a4 = some t1 ∧ fX6_sold M_g24 M_g25 M_g26 M_r11 M_r15 M_r21 M_r22 M_x12 M_x18 M_x19 M_x20 M_x23 a1 a2 a3 a4 = some t2 ∧ t1.1 = t2.1 ∧ Rel E_x1 E_r0 M_x1 M_r0 L_x6 M_x2 L_x7 M_x33 S_x5 S_x6 S_x7 S_x8 S_x9 S_r0 S_r1 S_r2 S_r3 S_r4 M_x12 M_r11 M_r15 M_x18 M_r9 M_r10 H0_x1 H0_x2 H0_r0 H1_x1 H1_x2 H1_r0 H2_x1 H2_x2 H2_r0 H3_x1 H3_x2 H3_r0 M_r30 M_r31 M_r32 := by
  have hR0 := hR
  obtain ⟨-, -, -, ⟨⟨n, hn, rfl, rfl, hs⟩, r0, r1, r2, r3, m1, m2, m3, m4, m5, m6, m7, m8⟩, rfl, -⟩ := hR
  have hB : SB (n, S_r0, S_r1, S_r2, S_r3, S_r4, S_x6, S_x7, S_x8) := ⟨hn, fun s h => (hs s h).2.2.2.2.2, m1, m2, m3, m4, m5, m6⟩
  simp only [fX5_sold, fX6_sold, isOffer6, isPrice6, isSort6]
  rcases offer_c a1 a2 with ⟨hk, e1⟩ | e1
  · rcases price_c a3 with ⟨hp, e2⟩ | e2
    · rcases isSort_c hn a4 with ⟨j, hj, rfl, e3⟩ | e3
      · obtain ⟨pf, h1, h3⟩ := make5 hn S_r0 S_r1 S_r2 S_r3 S_r4 S_x6 S_x7 S_x8 T_r0 a1 a2 a3
        obtain ⟨tu, td, gl, cm, so, h2, -, -, -, h4⟩ := lay6 hs hB r0 r1 r2 M_r21 M_r22 hk hp
        simp only [e1, e2, e3, bd_s, one0, ite_false, h1, h2, ckI_nI (show j < 8 by omega) (by omega : (8 : Nat) < 2 ^ 31), nI_clamp (show j < 2 ^ 31 by omega)]
        exact ⟨_, _, rfl, rfl, by show pf j = so j; rw [h3 j hj, h4 j hj], hR0⟩
      · simp only [e1, e2, e3, bd_s, one0, ite_false, ite_true]; exact ⟨_, _, rfl, rfl, rfl, hR0⟩
    · simp only [e1, e2, bd_s, one0, ite_false, ite_true]; exact ⟨_, _, rfl, rfl, rfl, hR0⟩
  · simp only [e1, bd_s, ite_true]; exact ⟨_, _, rfl, rfl, rfl, hR0⟩
set_option maxRecDepth 20000 in
set_option maxHeartbeats 2000000 in
theorem sim_rests (E_x1 : Int32) (E_r0 : (Nat → Int32)) (M_x1 : Int32) (M_r0 : (Nat → Int32)) (L_x6 : Int32) (M_x2 : Int32) (L_x7 : Int32) (M_x33 : Int32) (S_x5 : Int32) (S_x6 : Int32) (S_x7 : Int32) (S_x8 : Int32) (S_x9 : Int32) (S_r0 : (Nat → Int32)) (S_r1 : (Nat → Int32)) (S_r2 : (Nat → Int32)) (S_r3 : (Nat → Int32)) (S_r4 : (Nat → Int32)) (M_x12 : Int32) (M_r11 : (Nat → Int32)) (M_r15 : (Nat → Int32)) (M_x18 : Int32) (M_r9 : (Nat → Int32)) (M_r10 : (Nat → Int32)) (H0_x1 : Int32) (H0_x2 : Int32) (H0_r0 : (Nat → Int32)) (H1_x1 : Int32) (H1_x2 : Int32) (H1_r0 : (Nat → Int32)) (H2_x1 : Int32) (H2_x2 : Int32) (H2_r0 : (Nat → Int32)) (H3_x1 : Int32) (H3_x2 : Int32) (H3_r0 : (Nat → Int32)) (M_r30 : (Nat → Int32)) (M_r31 : (Nat → Int32)) (M_r32 : (Nat → Int32)) (T_r0 : (Nat → Int32)) (T_x1 : Int32) (T_x2 : Int32) (T_x3 : Int32) (T_x4 : Int32) (T_x5 : Int32) (T_x6 : Int32) (M_g24 : Int64) (M_g25 : Int64) (M_g26 : Int64) (M_r21 : (Nat → Int32)) (M_r22 : (Nat → Int32)) (M_x19 : Int32) (M_x20 : Int32) (M_x23 : Int32) (hR : Rel E_x1 E_r0 M_x1 M_r0 L_x6 M_x2 L_x7 M_x33 S_x5 S_x6 S_x7 S_x8 S_x9 S_r0 S_r1 S_r2 S_r3 S_r4 M_x12 M_r11 M_r15 M_x18 M_r9 M_r10 H0_x1 H0_x2 H0_r0 H1_x1 H1_x2 H1_r0 H2_x1 H2_x2 H2_r0 H3_x1 H3_x2 H3_r0 M_r30 M_r31 M_r32) (a1 : Int32) (a2 : Int32) (a3 : Int32) : ∃ (t1 : (Int32 × (Nat → Int32) × Int32 × Int32 × Int32 × Int32 × Int32 × Int32)) (t2 : (Int32 × Int64 × Int64 × Int64 × (Nat → Int32) × (Nat → Int32) × Int32 × Int32 × Int32)), fX5_rests S_r0 S_r1 S_r2 S_r3 S_r4 S_x5 S_x6 S_x7 S_x8 T_r0 T_x1 T_x2 T_x3 T_x4 T_x5 T_x6 a1 a2 a3 = some t1 ∧ fX6_rests M_g24 M_g25 M_g26 M_r11 M_r15 M_r21 M_r22 M_x12 M_x18 M_x19 M_x20 M_x23 a1 a2 a3 = some t2 ∧ t1.1 = t2.1 ∧ Rel E_x1 E_r0 M_x1 M_r0 L_x6 M_x2 L_x7 M_x33 S_x5 S_x6 S_x7 S_x8 S_x9 S_r0 S_r1 S_r2 S_r3 S_r4 M_x12 M_r11 M_r15 M_x18 M_r9 M_r10 H0_x1 H0_x2 H0_r0 H1_x1 H1_x2 H1_r0 H2_x1 H2_x2 H2_r0 H3_x1 H3_x2 H3_r0 M_r30 M_r31 M_r32 := by
  have hR0 := hR
  obtain ⟨-, -, -, ⟨⟨n, hn, rfl, rfl, hs⟩, r0, r1, r2, r3, m1, m2, m3, m4, m5, m6, m7, m8⟩, rfl, -⟩ := hR
  have hB : SB (n, S_r0, S_r1, S_r2, S_r3, S_r4, S_x6, S_x7, S_x8) := ⟨hn, fun s h => (hs s h).2.2.2.2.2, m1, m2, m3, m4, m5, m6⟩
  simp only [fX5_rests, fX6_rests, isOffer6, in_0_3]
  rcases offer_c a1 a2 with ⟨hk, e1⟩ | e1
  · rcases isW_c a3 0 3 with ⟨-, -, e2⟩ | ⟨-, e2⟩
    · obtain ⟨t, t', h1, h2, h3⟩ := loop_two (fX5_rests_b40 a1 a2 a3 S_r0 S_r1 S_r2 S_r3 S_r4 (nI n) S_x6 S_x7 S_x8) (fX6_rests_b43 a1 a2 a3 M_r11 M_r15 (nI n) (-4))
        (fun i v v' => v.1 = v'.1 ∧ v.2.1 = v'.2.1 ∧ v.2.2.1 = v'.2.2.1 ∧ v.2.2.2.1 = v'.2.2.2.1 ∧ v.2.2.2.2.1 = v'.2.2.2.2.1 ∧ v.2.2.2.2.2.1 = nI i ∧ v'.2.2.2.2.2.1 = nI i)
        (fun t t' => t.1 = t'.1 ∧ t.2.1 = t'.2.1 ∧ t.2.2.1 = t'.2.2.1 ∧ t.2.2.2.1 = t'.2.2.2.1) 100 (v := ((0 : Int32), (-4 : Int32), (-4 : Int32), (-4 : Int32), (0 : Int32), (0 : Int32), T_r0, T_x1, T_x2, T_x3, T_x4, T_x5, T_x6)) (v' := ((0 : Int32), (-4 : Int32), (-4 : Int32), (-4 : Int32), (0 : Int32), (0 : Int32), M_g24, M_g25, M_g26, M_r21, M_r22, M_x19, M_x20, M_x23)) (by omega) ⟨rfl, rfl, rfl, rfl, rfl, rfl, rfl⟩ (by
        rintro i ⟨b1, b2, b3, b4, b5, b6, y1, y2, y3, y4, y5, y6, y7⟩ ⟨d1, d2, d3, d4, d5, d6, x1, x2, x3, x4, x5, x6, x7, x8⟩ hi ⟨q1, q2, q3, q4, q5, q6, q7⟩
        dsimp only at q1 q2 q3 q4 q5 q6 q7
        subst q1; subst q2; subst q3; subst q4; subst q5; subst q6; subst q7
        have hp := vp_nI hi
        have hc : ¬ (100 : Int32) ≤ nI i := nle (n := 100) hi (by omega)
        obtain ⟨pf, g1, -⟩ := make5 hn S_r0 S_r1 S_r2 S_r3 S_r4 S_x6 S_x7 S_x8 y1 a1 a2 (nI i)
        obtain ⟨tu, td, gl, cm, so, g2, -⟩ := rest6 hs hB r0 r1 r2 x4 x5 hk hp
        unfold fX5_rests_b40 fX6_rests_b43
        dsimp only
        rw [if_neg hc, if_neg hc, g1, g2, bd_s, bd_s]
        dsimp only
        rw [holds5 hB hk hp, bd_s, nI_1]
        by_cases c : rB (n, S_r0, S_r1, S_r2, S_r3, S_r4, S_x6, S_x7, S_x8) a1 a2 (nI i) = true
        · simp only [if_pos c, one0, ite_false]
          have e3 : (if b2 = -4 then some (nI i) else some b2) = some (if b2 = -4 then nI i else b2) := by split <;> rfl
          have e4 : (if oParts (n, S_r0, S_r1, S_r2, S_r3, S_r4, S_x6, S_x7, S_x8) a1 a2 (nI i) ≤ b5 then some b4 else some (nI i)) = some (if oParts (n, S_r0, S_r1, S_r2, S_r3, S_r4, S_x6, S_x7, S_x8) a1 a2 (nI i) ≤ b5 then b4 else nI i) := by split <;> rfl
          have e5 : (if oParts (n, S_r0, S_r1, S_r2, S_r3, S_r4, S_x6, S_x7, S_x8) a1 a2 (nI i) ≤ b5 then some b5 else some (oParts (n, S_r0, S_r1, S_r2, S_r3, S_r4, S_x6, S_x7, S_x8) a1 a2 (nI i))) = some (if b5 < oParts (n, S_r0, S_r1, S_r2, S_r3, S_r4, S_x6, S_x7, S_x8) a1 a2 (nI i) then oParts (n, S_r0, S_r1, S_r2, S_r3, S_r4, S_x6, S_x7, S_x8) a1 a2 (nI i) else b5) := by
            by_cases q : oParts (n, S_r0, S_r1, S_r2, S_r3, S_r4, S_x6, S_x7, S_x8) a1 a2 (nI i) ≤ b5
            · rw [if_pos q, if_neg (by rw [fa_lt]; rw [fa_le] at q; omega)]
            · rw [if_neg q, if_pos (by rw [fa_lt]; rw [fa_le] at q; omega)]
          simp only [e3, e4, e5, bd_s]
          exact ⟨_, _, rfl, rfl, rfl, rfl, rfl, rfl, rfl, rfl, rfl⟩
        · simp only [if_neg c, ite_true, bd_s]
          exact ⟨_, _, rfl, rfl, rfl, rfl, rfl, rfl, rfl, rfl, rfl⟩) (by
        rintro ⟨b1, b2, b3, b4, b5, b6, y⟩ ⟨d1, d2, d3, d4, d5, d6, x⟩ ⟨q1, q2, q3, q4, q5, q6, q7⟩
        dsimp only at q1 q2 q3 q4 q5 q6 q7
        subst q1; subst q2; subst q3; subst q4; subst q5; subst q6; subst q7
        have hc : (100 : Int32) ≤ nI 100 := by decide
        unfold fX5_rests_b40 fX6_rests_b43
        dsimp only
        rw [if_pos hc, if_pos hc]
        exact ⟨_, _, rfl, rfl, rfl, rfl, rfl, rfl⟩)
      obtain ⟨f1, f2, f3, f4⟩ := h3
      simp only [e1, e2, bd_s, one0, ite_false, h1, h2]
      by_cases k0 : a3 = 0
      · simp only [if_pos k0]; exact ⟨_, _, rfl, rfl, f1, hR0⟩
      · simp only [if_neg k0]
        by_cases k1 : a3 = 1
        · simp only [if_pos k1]; exact ⟨_, _, rfl, rfl, f2, hR0⟩
        · simp only [if_neg k1]
          by_cases k2 : a3 = 2
          · simp only [if_pos k2]; exact ⟨_, _, rfl, rfl, f3, hR0⟩
          · simp only [if_neg k2]; exact ⟨_, _, rfl, rfl, f4, hR0⟩
    · simp only [e1, e2, bd_s, one0, ite_false, ite_true]; exact ⟨_, _, rfl, rfl, rfl, hR0⟩
  · simp only [e1, bd_s, ite_true]; exact ⟨_, _, rfl, rfl, rfl, hR0⟩
set_option maxRecDepth 20000 in
set_option maxHeartbeats 2000000 in
theorem sim_gain (E_x1 : Int32) (E_r0 : (Nat → Int32)) (M_x1 : Int32) (M_r0 : (Nat → Int32)) (L_x6 : Int32) (M_x2 : Int32) (L_x7 : Int32) (M_x33 : Int32) (S_x5 : Int32) (S_x6 : Int32) (S_x7 : Int32) (S_x8 : Int32) (S_x9 : Int32) (S_r0 : (Nat → Int32)) (S_r1 : (Nat → Int32)) (S_r2 : (Nat → Int32)) (S_r3 : (Nat → Int32)) (S_r4 : (Nat → Int32)) (M_x12 : Int32) (M_r11 : (Nat → Int32)) (M_r15 : (Nat → Int32)) (M_x18 : Int32) (M_r9 : (Nat → Int32)) (M_r10 : (Nat → Int32)) (H0_x1 : Int32) (H0_x2 : Int32) (H0_r0 : (Nat → Int32)) (H1_x1 : Int32) (H1_x2 : Int32) (H1_r0 : (Nat → Int32)) (H2_x1 : Int32) (H2_x2 : Int32) (H2_r0 : (Nat → Int32)) (H3_x1 : Int32) (H3_x2 : Int32) (H3_r0 : (Nat → Int32)) (M_r30 : (Nat → Int32)) (M_r31 : (Nat → Int32)) (M_r32 : (Nat → Int32)) (T_r0 : (Nat → Int32)) (T_x1 : Int32) (T_x2 : Int32) (T_x3 : Int32) (T_x4 : Int32) (T_x5 : Int32) (T_x6 : Int32) (M_g24 : Int64) (M_g25 : Int64) (M_g26 : Int64) (M_r21 : (Nat → Int32)) (M_r22 : (Nat → Int32)) (M_x19 : Int32) (M_x20 : Int32) (M_x23 : Int32) (hR : Rel E_x1 E_r0 M_x1 M_r0 L_x6 M_x2 L_x7 M_x33 S_x5 S_x6 S_x7 S_x8 S_x9 S_r0 S_r1 S_r2 S_r3 S_r4 M_x12 M_r11 M_r15 M_x18 M_r9 M_r10 H0_x1 H0_x2 H0_r0 H1_x1 H1_x2 H1_r0 H2_x1 H2_x2 H2_r0 H3_x1 H3_x2 H3_r0 M_r30 M_r31 M_r32) (a1 : Int32) (a2 : Int32) (a3 : Int32) : ∃ (t1 : (Int32 × (Nat → Int32) × Int32 × Int32 × Int32 × Int32 × Int32 × Int32)) (t2 : (Int32 × Int64 × Int64 × Int64 × (Nat → Int32) × (Nat → Int32) × Int32 × Int32 × Int32)), fX5_gain S_r0 S_r1 S_r2 S_r3 S_r4 S_x5 S_x6 S_x7 S_x8 T_r0 T_x1 T_x2 T_x3 T_x4 T_x5 T_x6 a1 a2 a3 = some t1 ∧ fX6_gain M_g24 M_g25 M_g26 M_r11 M_r15 M_r21 M_r22 M_x12 M_x18 M_x19 M_x20 M_x23 a1 a2 a3 = some t2 ∧ t1.1 = t2.1 ∧ Rel E_x1 E_r0 M_x1 M_r0 L_x6 M_x2 L_x7 M_x33 S_x5 S_x6 S_x7 S_x8 S_x9 S_r0 S_r1 S_r2 S_r3 S_r4 M_x12 M_r11 M_r15 M_x18 M_r9 M_r10 H0_x1 H0_x2 H0_r0 H1_x1 H1_x2 H1_r0 H2_x1 H2_x2 H2_r0 H3_x1 H3_x2 H3_r0 M_r30 M_r31 M_r32 := by
  have hR0 := hR
  obtain ⟨-, -, -, ⟨⟨n, hn, rfl, rfl, hs⟩, r0, r1, r2, r3, m1, m2, m3, m4, m5, m6, m7, m8⟩, rfl, -⟩ := hR
  have hB : SB (n, S_r0, S_r1, S_r2, S_r3, S_r4, S_x6, S_x7, S_x8) := ⟨hn, fun s h => (hs s h).2.2.2.2.2, m1, m2, m3, m4, m5, m6⟩
  simp only [fX5_gain, fX6_gain, isOffer6, isPrice6, fX5_gainAt]
  rcases offer_c a1 a2 with ⟨hk, e1⟩ | e1
  · rcases price_c a3 with ⟨hp, e2⟩ | e2
    · obtain ⟨pf, h1, h3⟩ := make5 hn S_r0 S_r1 S_r2 S_r3 S_r4 S_x6 S_x7 S_x8 T_r0 a1 a2 a3
      obtain ⟨tu, td, gl, cm, so, h2, -, -, h5, h4⟩ := lay6 hs hB r0 r1 r2 M_r21 M_r22 hk hp
      simp only [e1, e2, bd_s, one0, ite_false, h1, h2]
      exact ⟨_, _, rfl, rfl, (toI32 h5).symm, hR0⟩
    · simp only [e1, e2, bd_s, one0, ite_false, ite_true]; exact ⟨_, _, rfl, rfl, rfl, hR0⟩
  · simp only [e1, bd_s, ite_true]; exact ⟨_, _, rfl, rfl, rfl, hR0⟩
set_option maxRecDepth 20000 in
set_option maxHeartbeats 2000000 in
theorem sim_lost (E_x1 : Int32) (E_r0 : (Nat → Int32)) (M_x1 : Int32) (M_r0 : (Nat → Int32)) (L_x6 : Int32) (M_x2 : Int32) (L_x7 : Int32) (M_x33 : Int32) (S_x5 : Int32) (S_x6 : Int32) (S_x7 : Int32) (S_x8 : Int32) (S_x9 : Int32) (S_r0 : (Nat → Int32)) (S_r1 : (Nat → Int32)) (S_r2 : (Nat → Int32)) (S_r3 : (Nat → Int32)) (S_r4 : (Nat → Int32)) (M_x12 : Int32) (M_r11 : (Nat → Int32)) (M_r15 : (Nat → Int32)) (M_x18 : Int32) (M_r9 : (Nat → Int32)) (M_r10 : (Nat → Int32)) (H0_x1 : Int32) (H0_x2 : Int32) (H0_r0 : (Nat → Int32)) (H1_x1 : Int32) (H1_x2 : Int32) (H1_r0 : (Nat → Int32)) (H2_x1 : Int32) (H2_x2 : Int32) (H2_r0 : (Nat → Int32)) (H3_x1 : Int32) (H3_x2 : Int32) (H3_r0 : (Nat → Int32)) (M_r30 : (Nat → Int32)) (M_r31 : (Nat → Int32)) (M_r32 : (Nat → Int32)) (T_r0 : (Nat → Int32)) (T_x1 : Int32) (T_x2 : Int32) (T_x3 : Int32) (T_x4 : Int32) (T_x5 : Int32) (T_x6 : Int32) (M_g24 : Int64) (M_g25 : Int64) (M_g26 : Int64) (M_r21 : (Nat → Int32)) (M_r22 : (Nat → Int32)) (M_x19 : Int32) (M_x20 : Int32) (M_x23 : Int32) (hR : Rel E_x1 E_r0 M_x1 M_r0 L_x6 M_x2 L_x7 M_x33 S_x5 S_x6 S_x7 S_x8 S_x9 S_r0 S_r1 S_r2 S_r3 S_r4 M_x12 M_r11 M_r15 M_x18 M_r9 M_r10 H0_x1 H0_x2 H0_r0 H1_x1 H1_x2 H1_r0 H2_x1 H2_x2 H2_r0 H3_x1 H3_x2 H3_r0 M_r30 M_r31 M_r32) (a1 : Int32) (a2 : Int32) (a3 : Int32) : ∃ (t1 : (Int32 × (Nat → Int32) × Int32 × Int32 × Int32 × Int32 × Int32 × Int32)) (t2 : (Int32 × Int64 × Int64 × Int64 × (Nat → Int32) × (Nat → Int32) × Int32 × Int32 × Int32)), fX5_lost S_r0 S_r1 S_r2 S_r3 S_r4 S_x5 S_x6 S_x7 S_x8 T_r0 T_x1 T_x2 T_x3 T_x4 T_x5 T_x6 a1 a2 a3 = some t1 ∧ fX6_lost M_g24 M_g25 M_g26 M_r11 M_r15 M_r21 M_r22 M_x12 M_x18 M_x19 M_x20 M_x23 a1 a2 a3 = some t2 ∧ t1.1 = t2.1 ∧ Rel E_x1 E_r0 M_x1 M_r0 L_x6 M_x2 L_x7 M_x33 S_x5 S_x6 S_x7 S_x8 S_x9 S_r0 S_r1 S_r2 S_r3 S_r4 M_x12 M_r11 M_r15 M_x18 M_r9 M_r10 H0_x1 H0_x2 H0_r0 H1_x1 H1_x2 H1_r0 H2_x1 H2_x2 H2_r0 H3_x1 H3_x2 H3_r0 M_r30 M_r31 M_r32 := by
  have hR0 := hR
  obtain ⟨-, -, -, ⟨⟨n, hn, rfl, rfl, hs⟩, r0, r1, r2, r3, m1, m2, m3, m4, m5, m6, m7, m8⟩, rfl, -⟩ := hR
  have hB : SB (n, S_r0, S_r1, S_r2, S_r3, S_r4, S_x6, S_x7, S_x8) := ⟨hn, fun s h => (hs s h).2.2.2.2.2, m1, m2, m3, m4, m5, m6⟩
  simp only [fX5_lost, fX6_lost, isOffer6, isPrice6]
  rcases offer_c a1 a2 with ⟨hk, e1⟩ | e1
  · rcases price_c a3 with ⟨hp, e2⟩ | e2
    · obtain ⟨pf, h1, h3⟩ := make5 hn S_r0 S_r1 S_r2 S_r3 S_r4 S_x6 S_x7 S_x8 T_r0 a1 a2 a3
      obtain ⟨tu, td, gl, cm, so, h2, -, -, h5, h4⟩ := lay6 hs hB r0 r1 r2 M_r21 M_r22 hk hp
      obtain ⟨t, h6, h7⟩ := loop_to (fX6_lost_b30 (nI n) M_r11 so) (fun i v => v = (bx_sum (oLs (n, S_r0, S_r1, S_r2, S_r3, S_r4, S_x6, S_x7, S_x8) a1 a2 a3) i, nI i)) (fun t => t = bx_sum (oLs (n, S_r0, S_r1, S_r2, S_r3, S_r4, S_x6, S_x7, S_x8) a1 a2 a3) n) n (v := ((0 : Int32), (0 : Int32))) (by omega) rfl (by
        rintro i v hi rfl
        obtain ⟨g0, g1, g2, -⟩ := hs i hi
        have hi8 : i < 8 := by omega
        refine ⟨_, ?_, rfl⟩
        unfold fX6_lost_b30
        dsimp only
        rw [if_neg (nle hi (by omega)), i2' hi8, bd_s, i1' hi8, bd_s, i0' hi8, bd_s, ckI_nI hi8 (by omega), nI_clamp (by omega), h4 i hi, g0, g1, g2, nI_1]
        have e : oLs (n, S_r0, S_r1, S_r2, S_r3, S_r4, S_x6, S_x7, S_x8) a1 a2 a3 i = (800 * S_r0 i - oSa (n, S_r0, S_r1, S_r2, S_r3, S_r4, S_x6, S_x7, S_x8) a1 a2 a3 i) * (if 0 < S_r2 i - S_r1 i then S_r2 i - S_r1 i else 0) := rfl
        show _ = some (Sum.inl (bx_sum _ i + oLs _ a1 a2 a3 i, _))
        rw [e]
        by_cases q : S_r2 i - S_r1 i ≤ 0
        · rw [if_pos q, if_neg (by rw [fa_lt]; rw [fa_le] at q; omega), bd_s, Int32.mul_zero]
        · rw [if_neg q, if_pos (by rw [fa_lt]; rw [fa_le] at q; omega), bd_s]) (by
        rintro v rfl
        exact ⟨_, by unfold fX6_lost_b30; dsimp only; rw [if_pos (nI_le (Nat.le_refl n) (by omega))], rfl⟩)
      simp only [e1, e2, bd_s, one0, ite_false, h1, h2, h6]
      exact ⟨_, _, rfl, rfl, h7.symm, hR0⟩
    · simp only [e1, e2, bd_s, one0, ite_false, ite_true]; exact ⟨_, _, rfl, rfl, rfl, hR0⟩
  · simp only [e1, bd_s, ite_true]; exact ⟨_, _, rfl, rfl, rfl, hR0⟩
