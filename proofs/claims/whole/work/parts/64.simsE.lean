set_option maxRecDepth 20000 in
set_option maxHeartbeats 2000000 in
theorem sim_thought (E_x1 : Int32) (E_r0 : (Nat → Int32)) (M_x1 : Int32) (M_r0 : (Nat → Int32)) (L_x6 : Int32) (M_x2 : Int32) (L_x7 : Int32) (M_x33 : Int32) (S_x5 : Int32) (S_x6 : Int32) (S_x7 : Int32) (S_x8 : Int32) (S_x9 : Int32) (S_r0 : (Nat → Int32)) (S_r1 : (Nat → Int32)) (S_r2 : (Nat → Int32)) (S_r3 : (Nat → Int32)) (S_r4 : (Nat → Int32)) (M_x12 : Int32) (M_r11 : (Nat → Int32)) (M_r15 : (Nat → Int32)) (M_x18 : Int32) (M_r9 : (Nat → Int32)) (M_r10 : (Nat → Int32)) (H0_x1 : Int32) (H0_x2 : Int32) (H0_r0 : (Nat → Int32)) (H1_x1 : Int32) (H1_x2 : Int32) (H1_r0 : (Nat → Int32)) (H2_x1 : Int32) (H2_x2 : Int32) (H2_r0 : (Nat → Int32)) (H3_x1 : Int32) (H3_x2 : Int32) (H3_r0 : (Nat → Int32)) (M_r30 : (Nat → Int32)) (M_r31 : (Nat → Int32)) (M_r32 : (Nat → Int32)) (T_r0 : (Nat → Int32)) (T_x1 : Int32) (T_x2 : Int32) (T_x3 : Int32) (T_x4 : Int32) (T_x5 : Int32) (T_x6 : Int32) (M_g24 : Int64) (M_g25 : Int64) (M_g26 : Int64) (M_r21 : (Nat → Int32)) (M_r22 : (Nat → Int32)) (M_x19 : Int32) (M_x20 : Int32) (M_x23 : Int32) (hR : Rel E_x1 E_r0 M_x1 M_r0 L_x6 M_x2 L_x7 M_x33 S_x5 S_x6 S_x7 S_x8 S_x9 S_r0 S_r1 S_r2 S_r3 S_r4 M_x12 M_r11 M_r15 M_x18 M_r9 M_r10 H0_x1 H0_x2 H0_r0 H1_x1 H1_x2 H1_r0 H2_x1 H2_x2 H2_r0 H3_x1 H3_x2 H3_r0 M_r30 M_r31 M_r32) (a1 : Int32) (a2 : Int32) (a3 : Int32) (a4 : Int32) : ∃ (t1 : (Int32 × (Nat → Int32) × Int32 × Int32 × Int32 × Int32 × Int32 × Int32)) (t2 : (Int32 × Int64 × Int64 × Int64 × (Nat → Int32) × (Nat → Int32) × Int32 × Int32 × Int32)), fX5_thought S_r0 S_r1 S_r2 S_r3 S_r4 S_x5 S_x6 S_x7 S_x8 T_r0 T_x1 T_x2 T_x3 T_x4 T_x5 T_x6 a1 a2 a3 a4 = some t1 ∧ fX6_thought M_g24 M_g25 M_g26 M_r11 M_r15 M_r21 M_r22 M_x12 M_x18 M_x19 M_x20 M_x23 a1 a2 a3 a4 = some t2 ∧ t1.1 = t2.1 ∧ Rel E_x1 E_r0 M_x1 M_r0 L_x6 M_x2 L_x7 M_x33 S_x5 S_x6 S_x7 S_x8 S_x9 S_r0 S_r1 S_r2 S_r3 S_r4 M_x12 M_r11 M_r15 M_x18 M_r9 M_r10 H0_x1 H0_x2 H0_r0 H1_x1 H1_x2 H1_r0 H2_x1 H2_x2 H2_r0 H3_x1 H3_x2 H3_r0 M_r30 M_r31 M_r32 := by
  have hR0 := hR
  obtain ⟨-, -, -, ⟨⟨n, hn, rfl, rfl, hs⟩, r0, r1, r2, r3, m1, m2, m3, m4, m5, m6, m7, m8⟩, rfl, -⟩ := hR
  have hB : SB (n, S_r0, S_r1, S_r2, S_r3, S_r4, S_x6, S_x7, S_x8) := ⟨hn, fun s h => (hs s h).2.2.2.2.2, m1, m2, m3, m4, m5, m6⟩
  simp only [fX5_thought, fX6_thought, isOffer6, isPrice6, in_0_1]
  rcases offer_c a1 a2 with ⟨hk, e1⟩ | e1
  · rcases price_c a3 with ⟨hp, e2⟩ | e2
    · rcases isW_c a4 0 1 with ⟨-, -, e3⟩ | ⟨-, e3⟩
      · obtain ⟨pf, g1, -⟩ := make5 hn S_r0 S_r1 S_r2 S_r3 S_r4 S_x6 S_x7 S_x8 T_r0 a1 a2 a3
        obtain ⟨tu, td, gl, cm, so, g2, d2, d3, d4, d5⟩ := lay6 hs hB r0 r1 r2 M_r21 M_r22 hk hp
        have tb := tenths_b hB (p := a3) hk
        obtain ⟨-, pb1, pb2⟩ := parts_i hB (p := a3) hk
        have sh := shares_i hB (p := a3) hk
        simp only [e1, e2, e3, bd_s, one0, ite_false, g1, g2, fX4_shares]
        have y0 : (0 : Int32).toInt = 0 := rfl
        have y0l : (0 : Int64).toInt = 0 := rfl
        generalize oTenths (n, S_r0, S_r1, S_r2, S_r3, S_r4, S_x6, S_x7, S_x8) a1 a2 a3 = te at *
        generalize oParts (n, S_r0, S_r1, S_r2, S_r3, S_r4, S_x6, S_x7, S_x8) a1 a2 a3 = pa at *
        by_cases c : (0 : Int32) < pa
        · have c' := c
          rw [fa_lt, y0] at c'
          have c2 : ¬ pa = 0 := by intro q; rw [q, y0] at c'; omega
          simp only [if_pos c, if_neg c2]
          unfold fX6_lowest
          have ea : (if (0 : Int32) ≤ te then te else 0 - te) = nI te.toInt.natAbs := by
            refine eq32 ?_
            rw [nI_toInt (by omega)]
            by_cases z : (0 : Int32) ≤ te
            · rw [if_pos z]; rw [fa_le, y0] at z; omega
            · rw [if_neg z]; rw [fa_le, y0] at z
              rw [fb_subI (by rw [y0]; omega) (by rw [y0]; omega), y0]; omega
          have dcmp : 0 ≤ lg_cmp tu 0 ↔ 0 ≤ tu.toInt := by
            have z := cmp_lt tu 0
            rw [fa_lt, y0, fa_lt64, y0l] at z
            rw [fa_le, y0]
            omega
          have eA : (if 0 ≤ lg_cmp tu (0 : Int64) then some tu else some (-tu)) = some (if 0 ≤ tu.toInt then tu else -tu) := by
            by_cases z : 0 ≤ lg_cmp tu 0
            · rw [if_pos z, if_pos (dcmp.mp z)]
            · rw [if_neg z, if_neg (fun q => z (dcmp.mpr q))]
          have eA2 : (if 0 ≤ tu.toInt then tu else -tu).toInt = (te.toInt.natAbs : Int) := by
            by_cases z : 0 ≤ tu.toInt
            · rw [if_pos z]; omega
            · rw [if_neg z, show -tu = 0 - tu from (Int64.zero_sub tu).symm, fb_subL (by rw [y0l]; omega) (by rw [y0l]; omega), y0l]; omega
          have eb : (10 : Int32) * pa = nI (10 * pa.toInt).toNat := eq32 (by rw [sh, nI_toInt (by omega)]; omega)
          have hP : eP 0 te.toInt.natAbs (10 * pa.toInt).toNat := by
            refine Or.inl ⟨rfl, by omega, ?_⟩
            have h1 : te.toInt.natAbs ≤ 633600000 := by omega
            have h2 : (10 * pa.toInt).toNat ≤ 3200000 := by omega
            have := Nat.mul_le_mul h1 h2
            omega
          obtain ⟨g, T, k1, k2, k3, k4, k5⟩ := gcd_two (by omega) (by omega) hP (A := if 0 ≤ tu.toInt then tu else -tu) (B := td) (u := tu) (d := td) eA2 (by omega) a4
          rw [ea, eA, bd_s, k4, bd_s, eb, k3, bd_s]
          have eg := nI_toInt (n := g) k2
          have g0 : ¬ nI g = 0 := by intro q; rw [q, y0] at eg; omega
          have T0 : ¬ T = 0 := by intro q; rw [q, y0l] at k5; omega
          by_cases k0 : a4 = 0
          · simp only [if_pos k0, bd_s, ckN_ok g0, ckL_ok T0]
            refine ⟨_, _, rfl, rfl, ?_, hR0⟩
            dsimp only
            refine (toI32 ?_).symm
            rw [div32 (by omega), div64 (by omega), d2, k5, eg]
          · simp only [if_neg k0, bd_s, ckN_ok g0, ckL_ok T0]
            refine ⟨_, _, rfl, rfl, ?_, hR0⟩
            dsimp only
            refine (toI32 ?_).symm
            rw [div32 (by omega), div64 (by omega), ← eb, sh, d3, k5, eg]
        · have c' := c
          rw [fa_lt, y0] at c'
          have c2 : pa = 0 := eq32 (by rw [y0]; omega)
          simp only [if_neg c, if_pos c2]
          exact ⟨_, _, rfl, rfl, rfl, hR0⟩
      · simp only [e1, e2, e3, bd_s, one0, ite_false, ite_true]; exact ⟨_, _, rfl, rfl, rfl, hR0⟩
    · simp only [e1, e2, bd_s, one0, ite_false, ite_true]; exact ⟨_, _, rfl, rfl, rfl, hR0⟩
  · simp only [e1, bd_s, ite_true]; exact ⟨_, _, rfl, rfl, rfl, hR0⟩
set_option maxRecDepth 20000 in
set_option maxHeartbeats 2000000 in
theorem sim_sharp (E_x1 : Int32) (E_r0 : (Nat → Int32)) (M_x1 : Int32) (M_r0 : (Nat → Int32)) (L_x6 : Int32) (M_x2 : Int32) (L_x7 : Int32) (M_x33 : Int32) (S_x5 : Int32) (S_x6 : Int32) (S_x7 : Int32) (S_x8 : Int32) (S_x9 : Int32) (S_r0 : (Nat → Int32)) (S_r1 : (Nat → Int32)) (S_r2 : (Nat → Int32)) (S_r3 : (Nat → Int32)) (S_r4 : (Nat → Int32)) (M_x12 : Int32) (M_r11 : (Nat → Int32)) (M_r15 : (Nat → Int32)) (M_x18 : Int32) (M_r9 : (Nat → Int32)) (M_r10 : (Nat → Int32)) (H0_x1 : Int32) (H0_x2 : Int32) (H0_r0 : (Nat → Int32)) (H1_x1 : Int32) (H1_x2 : Int32) (H1_r0 : (Nat → Int32)) (H2_x1 : Int32) (H2_x2 : Int32) (H2_r0 : (Nat → Int32)) (H3_x1 : Int32) (H3_x2 : Int32) (H3_r0 : (Nat → Int32)) (M_r30 : (Nat → Int32)) (M_r31 : (Nat → Int32)) (M_r32 : (Nat → Int32)) (P_r0 : (Nat → Int32)) (P_r1 : (Nat → Int32)) (P_r2 : (Nat → Int32)) (P_r3 : (Nat → Int32)) (P_r4 : (Nat → Int32)) (P_x5 : Int32) (P_x6 : Int32) (P_x7 : Int32) (P_x8 : Int32) (P_x9 : Int32) (T_r0 : (Nat → Int32)) (T_x1 : Int32) (T_x2 : Int32) (T_x3 : Int32) (T_x4 : Int32) (T_x5 : Int32) (T_x6 : Int32) (M_g24 : Int64) (M_g25 : Int64) (M_g26 : Int64) (M_r21 : (Nat → Int32)) (M_r22 : (Nat → Int32)) (M_x19 : Int32) (M_x20 : Int32) (M_x23 : Int32) (hR : Rel E_x1 E_r0 M_x1 M_r0 L_x6 M_x2 L_x7 M_x33 S_x5 S_x6 S_x7 S_x8 S_x9 S_r0 S_r1 S_r2 S_r3 S_r4 M_x12 M_r11 M_r15 M_x18 M_r9 M_r10 H0_x1 H0_x2 H0_r0 H1_x1 H1_x2 H1_r0 H2_x1 H2_x2 H2_r0 H3_x1 H3_x2 H3_r0 M_r30 M_r31 M_r32)  : ∃ (t1 : (Int32 × (Nat → Int32) × (Nat → Int32) × (Nat → Int32) × (Nat → Int32) × (Nat → Int32) × Int32 × Int32 × Int32 × Int32 × Int32 × (Nat → Int32) × Int32 × Int32 × Int32 × Int32 × Int32 × Int32)) (t2 : (Int32 × Int64 × Int64 × Int64 × (Nat → Int32) × (Nat → Int32) × (Nat → Int32) × Int32 × Int32 × Int32)), fX5_sharp P_r0 P_r1 P_r2 P_r3 P_r4 P_x5 P_x6 P_x7 P_x8 P_x9 S_r0 S_r1 S_r2 S_r3 S_r4 S_x5 S_x6 S_x7 S_x8 S_x9 T_r0 T_x1 T_x2 T_x3 T_x4 T_x5 T_x6 = some t1 ∧ fX6_sharp M_g24 M_g25 M_g26 M_r11 M_r15 M_r21 M_r22 M_x12 M_x18 M_x19 M_x20 M_x23 = some t2 ∧ t1.1 = t2.1 ∧ Rel E_x1 E_r0 M_x1 M_r0 L_x6 M_x2 L_x7 M_x33 S_x5 S_x6 S_x7 S_x8 S_x9 S_r0 S_r1 S_r2 S_r3 S_r4 M_x12 M_r11 t2.2.2.2.2.1 M_x18 M_r9 M_r10 H0_x1 H0_x2 H0_r0 H1_x1 H1_x2 H1_r0 H2_x1 H2_x2 H2_r0 H3_x1 H3_x2 H3_r0 M_r30 M_r31 M_r32 := by
  have hR0 := hR
  obtain ⟨z1, z2, z3, ⟨⟨n, hn, rfl, rfl, hs⟩, r0, r1, r2, r3, m1, m2, m3, m4, m5, m6, m7, m8⟩, rfl, z4⟩ := hR
  have hr : VR S_x6 S_x7 S_x8 := ⟨m1, m2, m3, m4, m5, m6⟩
  have hr4 : VR S_x6 4 S_x8 := ⟨m1, m2, by decide, by decide, m5, m6⟩
  have hS' := SS_cp hn hs P_r0 P_r1 P_r2 P_r3 P_r4
  obtain ⟨t', k1, k2, k3⟩ := sharp6 hn hS' hr r0 r2 (nI (gmask (goodB S_r2 S_x6) n)) (M_r15 (1 : Int32).toNatClampNeg) M_g24 M_g25 M_g26 M_r21 M_r22 M_x19 M_x20 M_x23
  have h6 : fX6_sharp M_g24 M_g25 M_g26 M_r11 M_r15 M_r21 M_r22 (nI n) (-4) M_x19 M_x20 M_x23 = some (t'.1, t'.2.1, t'.2.2.1, t'.2.2.2.1, (upd t'.2.2.2.2.1 (1 : Int32).toNatClampNeg (M_r15 (1 : Int32).toNatClampNeg)), t'.2.2.2.2.2.1, t'.2.2.2.2.2.2.1, t'.2.2.2.2.2.2.2.1, t'.2.2.2.2.2.2.2.2.1, t'.2.2.2.2.2.2.2.2.2) := by
    unfold fX6_sharp
    rw [good6_run hn hs r0, bd_s, k1, bd_s]
  have hRel : ∀ j, upd t'.2.2.2.2.1 (1 : Int32).toNatClampNeg (M_r15 (1 : Int32).toNatClampNeg) j = M_r15 j := by
    intro j
    rw [show (1 : Int32).toNatClampNeg = 1 from rfl, upd_at]
    by_cases c : j = 1
    · rw [if_pos c, c]
    · rw [if_neg c, k3 j c]
  have e15 : upd t'.2.2.2.2.1 (1 : Int32).toNatClampNeg (M_r15 (1 : Int32).toNatClampNeg) = M_r15 := funext hRel
  rw [e15] at h6
  rw [h6]
  unfold fX5_sharp
  rw [goodOnes_eq _ _ hn, bd_s]
  by_cases c : nI (gmask (goodB S_r2 S_x6) n) = 0
  · rw [if_pos c]
    refine ⟨_, _, rfl, rfl, ?_, hR0⟩
    dsimp only
    rcases k2 with ⟨k2, -⟩ | ⟨j, -, -, -, k2, -⟩
    · exact k2.symm
    · exact absurd c k2.1
  · rw [if_neg c, copy_eq, bd_s]
    obtain ⟨t, g1, x, g2, g3⟩ := sharp5 hn hS' hr4 (nI (gmask (goodB S_r2 S_x6) n)) S_x9 S_x7 T_r0 T_x1 T_x2 T_x3 T_x4 T_x5 T_x6
    have g2' : Lst (fun j => ¬ nI (gmask (goodB S_r2 S_x6) n) = 0 ∧ GoOn (n, cp8 S_r0 P_r0, cp8 S_r1 P_r1, cp8 S_r2 P_r2, cp8 S_r3 P_r3, cp8 S_r4 P_r4, S_x6, nI j, S_x8) 2 (nI (gmask (goodB S_r2 S_x6) n)) 0 100) 4 9 x := by
      rcases g2 with ⟨a, b⟩ | ⟨j, a, b, d, e, f⟩
      · exact Or.inl ⟨a, fun j h1 h2 h3 => b j h1 h2 h3.2⟩
      · exact Or.inr ⟨j, a, b, d, ⟨c, e⟩, fun i h1 h2 h3 => f i h1 h2 h3.2⟩
    have hx := Lst_eq g2' k2
    dsimp only
    rw [g1, bd_s]
    rcases g3 with ⟨z, rfl, hz⟩ | ⟨e, rfl, hz⟩
    · refine ⟨_, _, rfl, rfl, ?_, hR0⟩
      dsimp only
      rw [hz, hx]
    · refine ⟨_, _, rfl, rfl, ?_, hR0⟩
      dsimp only
      rw [← hz, hx]
set_option maxRecDepth 20000 in
set_option maxHeartbeats 2000000 in
theorem sim_learn (E_x1 : Int32) (E_r0 : (Nat → Int32)) (M_x1 : Int32) (M_r0 : (Nat → Int32)) (L_x6 : Int32) (M_x2 : Int32) (L_x7 : Int32) (M_x33 : Int32) (S_x5 : Int32) (S_x6 : Int32) (S_x7 : Int32) (S_x8 : Int32) (S_x9 : Int32) (S_r0 : (Nat → Int32)) (S_r1 : (Nat → Int32)) (S_r2 : (Nat → Int32)) (S_r3 : (Nat → Int32)) (S_r4 : (Nat → Int32)) (M_x12 : Int32) (M_r11 : (Nat → Int32)) (M_r15 : (Nat → Int32)) (M_x18 : Int32) (M_r9 : (Nat → Int32)) (M_r10 : (Nat → Int32)) (H0_x1 : Int32) (H0_x2 : Int32) (H0_r0 : (Nat → Int32)) (H1_x1 : Int32) (H1_x2 : Int32) (H1_r0 : (Nat → Int32)) (H2_x1 : Int32) (H2_x2 : Int32) (H2_r0 : (Nat → Int32)) (H3_x1 : Int32) (H3_x2 : Int32) (H3_r0 : (Nat → Int32)) (M_r30 : (Nat → Int32)) (M_r31 : (Nat → Int32)) (M_r32 : (Nat → Int32)) (T_r0 : (Nat → Int32)) (T_x1 : Int32) (T_x2 : Int32) (T_x3 : Int32) (T_x4 : Int32) (T_x5 : Int32) (T_x6 : Int32) (M_g24 : Int64) (M_g25 : Int64) (M_g26 : Int64) (M_r21 : (Nat → Int32)) (M_r22 : (Nat → Int32)) (M_x19 : Int32) (M_x20 : Int32) (M_x23 : Int32) (hR : Rel E_x1 E_r0 M_x1 M_r0 L_x6 M_x2 L_x7 M_x33 S_x5 S_x6 S_x7 S_x8 S_x9 S_r0 S_r1 S_r2 S_r3 S_r4 M_x12 M_r11 M_r15 M_x18 M_r9 M_r10 H0_x1 H0_x2 H0_r0 H1_x1 H1_x2 H1_r0 H2_x1 H2_x2 H2_r0 H3_x1 H3_x2 H3_r0 M_r30 M_r31 M_r32) (a1 : Int32) (a2 : Int32) (a3 : Int32) : ∃ (t1 : (Int32 × (Nat → Int32) × Int32 × Int32 × Int32 × Int32 × Int32 × Int32)) (t2 : (Int32 × Int64 × Int64 × Int64 × (Nat → Int32) × (Nat → Int32) × Int32 × Int32 × Int32)), fX5_learn S_r0 S_r1 S_r2 S_r3 S_r4 S_x5 S_x6 S_x7 S_x8 S_x9 T_r0 T_x1 T_x2 T_x3 T_x4 T_x5 T_x6 a1 a2 a3 = some t1 ∧ fX6_learn M_g24 M_g25 M_g26 M_r11 M_r15 M_r21 M_r22 M_x12 M_x18 M_x19 M_x20 M_x23 a1 a2 a3 = some t2 ∧ t1.1 = t2.1 ∧ Rel E_x1 E_r0 M_x1 M_r0 L_x6 M_x2 L_x7 M_x33 S_x5 S_x6 S_x7 S_x8 S_x9 S_r0 S_r1 S_r2 S_r3 S_r4 M_x12 M_r11 M_r15 M_x18 M_r9 M_r10 H0_x1 H0_x2 H0_r0 H1_x1 H1_x2 H1_r0 H2_x1 H2_x2 H2_r0 H3_x1 H3_x2 H3_r0 M_r30 M_r31 M_r32 := by
  have hR0 := hR
  obtain ⟨-, -, -, ⟨⟨n, hn, rfl, rfl, hs⟩, r0, r1, r2, r3, m1, m2, m3, m4, m5, m6, m7, m8⟩, rfl, -⟩ := hR
  have hB : SB (n, S_r0, S_r1, S_r2, S_r3, S_r4, S_x6, S_x7, S_x8) := ⟨hn, fun s h => (hs s h).2.2.2.2.2, m1, m2, m3, m4, m5, m6⟩
  simp only [fX5_learn, fX6_learn, isPrice6, in_0_1, in_0_99]
  rcases price_c a1 with ⟨hp, e1⟩ | e1
  · rcases isW_c a2 0 99 with ⟨w1, w2, e2⟩ | ⟨-, e2⟩
    · rcases isW_c a3 0 1 with ⟨w3, w4, e3⟩ | ⟨-, e3⟩
      · simp only [e1, e2, e3, bd_s, one0, ite_false]
        have y0 : (0 : Int32).toInt = 0 := rfl
        have y1 : (1 : Int32).toInt = 1 := rfl
        have y99 : (99 : Int32).toInt = 99 := rfl
        rw [fa_le, y0] at w1
        rw [fa_le, y99] at w2
        rw [fa_le, y0] at w3
        rw [fa_le, y1] at w4
        have ea2 : nI a2.toInt.toNat = a2 := eq32 (by rw [nI_toInt (by omega)]; omega)
        obtain ⟨t, t', h1, h2, h3⟩ := loop_twoO (fX5_learn_b34 a2 a3 S_r0 S_r1 S_r2 S_r3 S_r4 (nI n) S_x6 S_x7 S_x8 S_x9) (fX6_learn_b37 a2 a3 M_r11 M_r15 (nI n) (-4))
          (fun i v v' => v.1 = v'.1 ∧ VP v.1 ∧ v.2.1 = nI i ∧ v'.2.1 = nI i)
          (fun t t' => (∃ z z', t = .inl z ∧ t' = .inl z' ∧ z.1 = z'.1) ∨ (∃ z e', t = .inl z ∧ t' = .inr e' ∧ a3 = 0 ∧ z.1 = e'.1) ∨ (∃ e e', t = .inr e ∧ t' = .inr e' ∧ ¬ a3 = 0))
          (if a3 = 0 then a2.toInt.toNat else 100) (by
            rintro i ⟨b1, b2, y1, y2, y3, y4, y5, y6, y7⟩ ⟨d1, d2, x1, x2, x3, x4, x5, x6, x7, x8⟩ hi ⟨q1, q2, q3, q4⟩
            dsimp only at q1 q2 q3 q4
            subst q1; subst q3; subst q4
            have hi9 : i < 100 := by
              by_cases z : a3 = 0
              · rw [if_pos z] at hi; omega
              · rw [if_neg z] at hi; omega
            have hc : ¬ (99 : Int32) < nI i := by rw [fa_lt, y99, nI_toInt (by omega)]; omega
            have hc2 : a3 = 0 → ¬ nI i = a2 := by
              intro z q
              rw [if_pos z] at hi
              have := nI_toInt (n := i) (by omega)
              rw [q] at this
              omega
            have eb : (if a3 = 0 then some a2 else some (100 : Int32)) = some (if a3 = 0 then a2 else 100) := by split <;> rfl
            have hc3 : ¬ (if a3 = 0 then a2 else (100 : Int32)) ≤ nI i := by
              by_cases z : a3 = 0
              · rw [if_pos z]; rw [if_pos z] at hi
                rw [fa_le, nI_toInt (by omega)]; omega
              · rw [if_neg z]
                exact nle (n := 100) hi9 (by omega)
            obtain ⟨q, T, T', v1, v2, v3⟩ := learn_two hs hB r0 r1 r2 r3 m7 m8 y1 x4 x5 q2
            unfold fX5_learn_b34 fX6_learn_b37
            dsimp only
            rw [if_neg hc, eb, bd_s, if_neg hc3, v3, bd_s]
            have ec : (if a3 = 0 then (if nI i = a2 then (some (.inl (b1, y1, y2, y3, y4, y5, y6, y7))) else (some (.inr ()))) else (some (.inr ())) : Option ((Int32 × (Nat → Int32) × Int32 × Int32 × Int32 × Int32 × Int32 × Int32) ⊕ Unit)) = some (.inr ()) := by
              by_cases z : a3 = 0
              · rw [if_pos z, if_neg (hc2 z)]
              · rw [if_neg z]
            rw [ec, bd_s]
            simp only [sm]
            rw [v2, bd_s]
            by_cases z : a3 = 1
            · rw [if_pos z, if_pos z]
              by_cases f : q = b1
              · dsimp only
                rw [if_pos f, if_pos f]
                exact Or.inr ⟨_, _, rfl, rfl, Or.inl ⟨_, _, rfl, rfl, rfl⟩⟩
              · dsimp only
                rw [if_neg f, if_neg f]
                exact Or.inl ⟨_, _, rfl, rfl, rfl, v1, nI_1 i, nI_1 i⟩
            · rw [if_neg z, if_neg z]
              exact Or.inl ⟨_, _, rfl, rfl, rfl, v1, nI_1 i, nI_1 i⟩) (by
            rintro ⟨b1, b2, y1, y2, y3, y4, y5, y6, y7⟩ ⟨d1, d2, x1, x2, x3, x4, x5, x6, x7, x8⟩ ⟨q1, q2, q3, q4⟩
            dsimp only at q1 q2 q3 q4
            subst q1
            have eb : (if a3 = 0 then some a2 else some (100 : Int32)) = some (if a3 = 0 then a2 else 100) := by split <;> rfl
            unfold fX5_learn_b34 fX6_learn_b37
            dsimp only
            rw [eb, bd_s]
            by_cases z : a3 = 0
            · rw [if_pos z, ea2] at q3 q4
              rw [q3, q4, if_neg (show ¬ (99 : Int32) < a2 by rw [fa_lt, y99]; omega), if_pos z, if_pos z, if_pos rfl, bd_s, if_pos (by rw [fa_le]; omega)]
              simp only [sm]
              exact ⟨_, _, rfl, rfl, Or.inr (Or.inl ⟨_, _, rfl, rfl, z, rfl⟩)⟩
            · rw [if_neg z] at q3 q4
              subst q3; subst q4
              rw [if_pos (show (99 : Int32) < nI 100 by decide), if_neg z, if_pos (show (100 : Int32) ≤ nI 100 by decide)]
              exact ⟨_, _, rfl, rfl, Or.inr (Or.inr ⟨_, _, rfl, rfl, z⟩)⟩) (if a3 = 0 then a2.toInt.toNat else 100) 0 (a1, (0 : Int32), T_r0, T_x1, T_x2, T_x3, T_x4, T_x5, T_x6) (a1, (0 : Int32), M_g24, M_g25, M_g26, M_r21, M_r22, M_x19, M_x20, M_x23) 1000 (by omega) (by split <;> omega) ⟨rfl, hp, rfl, rfl⟩
        rw [h1, h2, bd_s, bd_s]
        rcases h3 with ⟨z, z', rfl, rfl, f⟩ | ⟨z, e', rfl, rfl, k0, f⟩ | ⟨e, e', rfl, rfl, k0⟩
        · exact ⟨_, _, rfl, rfl, f, hR0⟩
        · simp only [sm, if_pos k0]
          refine ⟨_, _, rfl, rfl, ?_, hR0⟩
          exact f
        · simp only [sm, if_neg k0]
          exact ⟨_, _, rfl, rfl, rfl, hR0⟩
      · simp only [e1, e2, e3, bd_s, one0, ite_false, ite_true]; exact ⟨_, _, rfl, rfl, rfl, hR0⟩
    · simp only [e1, e2, bd_s, one0, ite_false, ite_true]; exact ⟨_, _, rfl, rfl, rfl, hR0⟩
  · simp only [e1, bd_s, ite_true]; exact ⟨_, _, rfl, rfl, rfl, hR0⟩
