set_option maxRecDepth 20000 in
set_option maxHeartbeats 2000000 in
theorem sim_end (E_x1 : Int32) (E_r0 : (Nat → Int32)) (M_x1 : Int32) (M_r0 : (Nat → Int32)) (L_x6 : Int32) (M_x2 : Int32) (L_x7 : Int32) (M_x33 : Int32) (S_x5 : Int32) (S_x6 : Int32) (S_x7 : Int32) (S_x8 : Int32) (S_x9 : Int32) (S_r0 : (Nat → Int32)) (S_r1 : (Nat → Int32)) (S_r2 : (Nat → Int32)) (S_r3 : (Nat → Int32)) (S_r4 : (Nat → Int32)) (M_x12 : Int32) (M_r11 : (Nat → Int32)) (M_r15 : (Nat → Int32)) (M_x18 : Int32) (M_r9 : (Nat → Int32)) (M_r10 : (Nat → Int32)) (H0_x1 : Int32) (H0_x2 : Int32) (H0_r0 : (Nat → Int32)) (H1_x1 : Int32) (H1_x2 : Int32) (H1_r0 : (Nat → Int32)) (H2_x1 : Int32) (H2_x2 : Int32) (H2_r0 : (Nat → Int32)) (H3_x1 : Int32) (H3_x2 : Int32) (H3_r0 : (Nat → Int32)) (M_r30 : (Nat → Int32)) (M_r31 : (Nat → Int32)) (M_r32 : (Nat → Int32)) (hR : Rel E_x1 E_r0 M_x1 M_r0 L_x6 M_x2 L_x7 M_x33 S_x5 S_x6 S_x7 S_x8 S_x9 S_r0 S_r1 S_r2 S_r3 S_r4 M_x12 M_r11 M_r15 M_x18 M_r9 M_r10 H0_x1 H0_x2 H0_r0 H1_x1 H1_x2 H1_r0 H2_x1 H2_x2 H2_r0 H3_x1 H3_x2 H3_r0 M_r30 M_r31 M_r32) (a1 : Int32) : ∃ (t1 : (Int32 × Int32)) (t2 : (Int32 × Int32)), fX5_end E_x1 a1 = some t1 ∧ fX6_end M_x1 a1 = some t2 ∧ t1.1 = t2.1 ∧ Rel t1.2 E_r0 t2.2 M_r0 L_x6 M_x2 L_x7 M_x33 S_x5 S_x6 S_x7 S_x8 S_x9 S_r0 S_r1 S_r2 S_r3 S_r4 M_x12 M_r11 M_r15 M_x18 M_r9 M_r10 H0_x1 H0_x2 H0_r0 H1_x1 H1_x2 H1_r0 H2_x1 H2_x2 H2_r0 H3_x1 H3_x2 H3_r0 M_r30 M_r31 M_r32 := by
  obtain ⟨⟨n, hn, rfl, rfl, hb⟩, hrest⟩ := hR
  simp only [fX5_end, fX6_end, in_0_v]
  rcases isW_c a1 0 (nI n) with ⟨h1, h2, e⟩ | ⟨h, e⟩
  · simp only [e, bd_s, one0, ite_false]
    obtain ⟨j, hj, rfl⟩ := rngN h1 h2 (by omega)
    exact ⟨_, _, rfl, rfl, rfl, ⟨j, by omega, rfl, rfl, fun i hi => hb i (by omega)⟩, hrest⟩
  · simp only [e, bd_s, ite_true]
    exact ⟨_, _, rfl, rfl, rfl, ⟨n, hn, rfl, rfl, hb⟩, hrest⟩
set_option maxRecDepth 20000 in
set_option maxHeartbeats 2000000 in
theorem sim_fault (E_x1 : Int32) (E_r0 : (Nat → Int32)) (M_x1 : Int32) (M_r0 : (Nat → Int32)) (L_x6 : Int32) (M_x2 : Int32) (L_x7 : Int32) (M_x33 : Int32) (S_x5 : Int32) (S_x6 : Int32) (S_x7 : Int32) (S_x8 : Int32) (S_x9 : Int32) (S_r0 : (Nat → Int32)) (S_r1 : (Nat → Int32)) (S_r2 : (Nat → Int32)) (S_r3 : (Nat → Int32)) (S_r4 : (Nat → Int32)) (M_x12 : Int32) (M_r11 : (Nat → Int32)) (M_r15 : (Nat → Int32)) (M_x18 : Int32) (M_r9 : (Nat → Int32)) (M_r10 : (Nat → Int32)) (H0_x1 : Int32) (H0_x2 : Int32) (H0_r0 : (Nat → Int32)) (H1_x1 : Int32) (H1_x2 : Int32) (H1_r0 : (Nat → Int32)) (H2_x1 : Int32) (H2_x2 : Int32) (H2_r0 : (Nat → Int32)) (H3_x1 : Int32) (H3_x2 : Int32) (H3_r0 : (Nat → Int32)) (M_r30 : (Nat → Int32)) (M_r31 : (Nat → Int32)) (M_r32 : (Nat → Int32)) (hR : Rel E_x1 E_r0 M_x1 M_r0 L_x6 M_x2 L_x7 M_x33 S_x5 S_x6 S_x7 S_x8 S_x9 S_r0 S_r1 S_r2 S_r3 S_r4 M_x12 M_r11 M_r15 M_x18 M_r9 M_r10 H0_x1 H0_x2 H0_r0 H1_x1 H1_x2 H1_r0 H2_x1 H2_x2 H2_r0 H3_x1 H3_x2 H3_r0 M_r30 M_r31 M_r32)  : ∃ (t1 : Int32) (t2 : Int32), fX5_fault L_x6 = some t1 ∧ fX6_fault M_x2 = some t2 ∧ t1 = t2 ∧ Rel E_x1 E_r0 M_x1 M_r0 L_x6 M_x2 L_x7 M_x33 S_x5 S_x6 S_x7 S_x8 S_x9 S_r0 S_r1 S_r2 S_r3 S_r4 M_x12 M_r11 M_r15 M_x18 M_r9 M_r10 H0_x1 H0_x2 H0_r0 H1_x1 H1_x2 H1_r0 H2_x1 H2_x2 H2_r0 H3_x1 H3_x2 H3_r0 M_r30 M_r31 M_r32 := by
  exact ⟨L_x6, M_x2, rfl, rfl, hR.2.1, hR⟩
set_option maxRecDepth 20000 in
set_option maxHeartbeats 2000000 in
theorem sim_sort (E_x1 : Int32) (E_r0 : (Nat → Int32)) (M_x1 : Int32) (M_r0 : (Nat → Int32)) (L_x6 : Int32) (M_x2 : Int32) (L_x7 : Int32) (M_x33 : Int32) (S_x5 : Int32) (S_x6 : Int32) (S_x7 : Int32) (S_x8 : Int32) (S_x9 : Int32) (S_r0 : (Nat → Int32)) (S_r1 : (Nat → Int32)) (S_r2 : (Nat → Int32)) (S_r3 : (Nat → Int32)) (S_r4 : (Nat → Int32)) (M_x12 : Int32) (M_r11 : (Nat → Int32)) (M_r15 : (Nat → Int32)) (M_x18 : Int32) (M_r9 : (Nat → Int32)) (M_r10 : (Nat → Int32)) (H0_x1 : Int32) (H0_x2 : Int32) (H0_r0 : (Nat → Int32)) (H1_x1 : Int32) (H1_x2 : Int32) (H1_r0 : (Nat → Int32)) (H2_x1 : Int32) (H2_x2 : Int32) (H2_r0 : (Nat → Int32)) (H3_x1 : Int32) (H3_x2 : Int32) (H3_r0 : (Nat → Int32)) (M_r30 : (Nat → Int32)) (M_r31 : (Nat → Int32)) (M_r32 : (Nat → Int32)) (hR : Rel E_x1 E_r0 M_x1 M_r0 L_x6 M_x2 L_x7 M_x33 S_x5 S_x6 S_x7 S_x8 S_x9 S_r0 S_r1 S_r2 S_r3 S_r4 M_x12 M_r11 M_r15 M_x18 M_r9 M_r10 H0_x1 H0_x2 H0_r0 H1_x1 H1_x2 H1_r0 H2_x1 H2_x2 H2_r0 H3_x1 H3_x2 H3_r0 M_r30 M_r31 M_r32) (a1 : Int32) (a2 : Int32) (a3 : Int32) : ∃ (t1 : (Int32 × (Nat → Int32) × (Nat → Int32) × (Nat → Int32) × (Nat → Int32) × (Nat → Int32) × Int32)) (t2 : (Int32 × (Nat → Int32) × Int32)), fX5_sort S_r0 S_r1 S_r2 S_r3 S_r4 S_x5 a1 a2 a3 = some t1 ∧ fX6_sort M_r11 M_x12 a1 a2 a3 = some t2 ∧ t1.1 = t2.1 ∧ Rel E_x1 E_r0 M_x1 M_r0 L_x6 M_x2 L_x7 M_x33 t1.2.2.2.2.2.2 S_x6 S_x7 S_x8 S_x9 t1.2.1 t1.2.2.1 t1.2.2.2.1 t1.2.2.2.2.1 t1.2.2.2.2.2.1 t2.2.2 t2.2.1 M_r15 M_x18 M_r9 M_r10 H0_x1 H0_x2 H0_r0 H1_x1 H1_x2 H1_r0 H2_x1 H2_x2 H2_r0 H3_x1 H3_x2 H3_r0 M_r30 M_r31 M_r32 := by
  obtain ⟨hT, hf, hq, ⟨⟨n, hn, rfl, rfl, hs⟩, hru⟩, hrest⟩ := hR
  simp only [fX5_sort, fX6_sort, asTold6]
  rcases told_c a1 a2 a3 0 with ⟨hb, e⟩ | e
  · simp only [e, bd_s, one0, ite_false]
    by_cases h8 : n = 8
    · subst h8
      rw [if_neg (by decide), if_pos (by decide)]
      exact ⟨_, _, rfl, rfl, rfl, hT, hf, hq, ⟨⟨8, hn, rfl, rfl, hs⟩, hru⟩, hrest⟩
    · have h7 : n < 8 := by omega
      have k1 : nI n < (8 : Int32) := (nI_ltI (b := 8) (by omega) (by omega)).mpr h7
      have k2 : ¬ nI n = (8 : Int32) := fun q => h8 ((nI_eq (b := 8) (by omega) (by omega)).mp q)
      rw [if_pos k1, if_neg k2, add_ok h7, lay_ok h7]
      simp only [bd_s]
      refine ⟨_, _, rfl, rfl, by show nI (n + 1) - 1 = nI n + 1 - 1; rw [nI_1], hT, hf, hq, ⟨⟨n + 1, by omega, rfl, nI_1 n, ?_⟩, hru⟩, hrest⟩
      exact added h7 hs hb
  · simp only [e, bd_s, ite_true]
    exact ⟨_, _, rfl, rfl, rfl, hT, hf, hq, ⟨⟨n, hn, rfl, rfl, hs⟩, hru⟩, hrest⟩
set_option maxRecDepth 20000 in
set_option maxHeartbeats 2000000 in
theorem sim_set (E_x1 : Int32) (E_r0 : (Nat → Int32)) (M_x1 : Int32) (M_r0 : (Nat → Int32)) (L_x6 : Int32) (M_x2 : Int32) (L_x7 : Int32) (M_x33 : Int32) (S_x5 : Int32) (S_x6 : Int32) (S_x7 : Int32) (S_x8 : Int32) (S_x9 : Int32) (S_r0 : (Nat → Int32)) (S_r1 : (Nat → Int32)) (S_r2 : (Nat → Int32)) (S_r3 : (Nat → Int32)) (S_r4 : (Nat → Int32)) (M_x12 : Int32) (M_r11 : (Nat → Int32)) (M_r15 : (Nat → Int32)) (M_x18 : Int32) (M_r9 : (Nat → Int32)) (M_r10 : (Nat → Int32)) (H0_x1 : Int32) (H0_x2 : Int32) (H0_r0 : (Nat → Int32)) (H1_x1 : Int32) (H1_x2 : Int32) (H1_r0 : (Nat → Int32)) (H2_x1 : Int32) (H2_x2 : Int32) (H2_r0 : (Nat → Int32)) (H3_x1 : Int32) (H3_x2 : Int32) (H3_r0 : (Nat → Int32)) (M_r30 : (Nat → Int32)) (M_r31 : (Nat → Int32)) (M_r32 : (Nat → Int32)) (hR : Rel E_x1 E_r0 M_x1 M_r0 L_x6 M_x2 L_x7 M_x33 S_x5 S_x6 S_x7 S_x8 S_x9 S_r0 S_r1 S_r2 S_r3 S_r4 M_x12 M_r11 M_r15 M_x18 M_r9 M_r10 H0_x1 H0_x2 H0_r0 H1_x1 H1_x2 H1_r0 H2_x1 H2_x2 H2_r0 H3_x1 H3_x2 H3_r0 M_r30 M_r31 M_r32) (a1 : Int32) (a2 : Int32) (a3 : Int32) : ∃ (t1 : (Int32 × (Nat → Int32) × (Nat → Int32) × (Nat → Int32) × (Nat → Int32) × (Nat → Int32))) (t2 : (Int32 × (Nat → Int32))), fX5_set S_r0 S_r1 S_r2 S_r3 S_r4 S_x5 a1 a2 a3 = some t1 ∧ fX6_set M_r11 M_x12 a1 a2 a3 = some t2 ∧ t1.1 = t2.1 ∧ Rel E_x1 E_r0 M_x1 M_r0 L_x6 M_x2 L_x7 M_x33 S_x5 S_x6 S_x7 S_x8 S_x9 t1.2.1 t1.2.2.1 t1.2.2.2.1 t1.2.2.2.2.1 t1.2.2.2.2.2 M_x12 t2.2 M_r15 M_x18 M_r9 M_r10 H0_x1 H0_x2 H0_r0 H1_x1 H1_x2 H1_r0 H2_x1 H2_x2 H2_r0 H3_x1 H3_x2 H3_r0 M_r30 M_r31 M_r32 := by
  obtain ⟨hT, hf, hq, ⟨⟨n, hn, rfl, rfl, hs⟩, hru⟩, hrest⟩ := hR
  have back : ∀ {r0 r1 r2 r3 r4 r11 : Nat → Int32}, SS n r11 r0 r1 r2 r3 r4 → Rel E_x1 E_r0 M_x1 M_r0 L_x6 M_x2 L_x7 M_x33 (nI n) S_x6 S_x7 S_x8 S_x9 r0 r1 r2 r3 r4 (nI n) r11 M_r15 M_x18 M_r9 M_r10 H0_x1 H0_x2 H0_r0 H1_x1 H1_x2 H1_r0 H2_x1 H2_x2 H2_r0 H3_x1 H3_x2 H3_r0 M_r30 M_r31 M_r32 := fun h => ⟨hT, hf, hq, ⟨⟨n, hn, rfl, rfl, h⟩, hru⟩, hrest⟩
  simp only [fX5_set, fX6_set, isSort6, in_0_4]
  rcases isSort_c hn a1 with ⟨j, hj, rfl, e⟩ | e
  · obtain ⟨g0, g1, g2, g3, g4, g5⟩ := hs j hj
    obtain ⟨b1, b2, b3, b4, b5, b6, b7, b8, b9, b10⟩ := g5
    have hj8 : j < 8 := by omega
    simp only [e, bd_s, one0, ite_false, nI_clamp (show j < 2 ^ 31 by omega), ckI_nI hj8 (by omega : (8 : Nat) < 2 ^ 31), fX2_row0, fX2_row1, fX2_row2, fX2_row3, fX2_row4]
    rcases isW_c a2 0 4 with ⟨h1, h2, e2⟩ | ⟨h, e2⟩
    · obtain ⟨k, hk, rfl⟩ := rngN (x := a2) (n := 4) h1 h2 (by omega)
      have i0 : fX6_its M_r11 (nI j) (0 : Int32) = some (M_r11 (5 * j + 0)) := its_eq (k := 0) hj8 (by omega)
      have i4 : fX6_its M_r11 (nI j) (4 : Int32) = some (M_r11 (5 * j + 4)) := its_eq (k := 4) hj8 (by omega)
      have ik := its_eq (r := M_r11) hj8 (show k < 5 by omega)
      have ej : (5 : Int32) * nI j + nI k = nI (5 * j + k) := by rw [show (5 : Int32) * nI j = nI (5 * j) from pk_mul 5 j, nI_add]
      have c1 : ∀ x : Option (Int32 × (Nat → Int32)), ckI (nI (5 * j + k)) 40 x = x := fun x => ckI_nI (by omega) (by omega) x
      simp only [e2, bd_s, one0, ite_false, ik, ej, c1, nI_clamp (show 5 * j + k < 2 ^ 31 by omega)]
      rcases (by omega : k = 0 ∨ k = 1 ∨ k = 2 ∨ k = 3 ∨ k = 4) with rfl | rfl | rfl | rfl | rfl
      · rw [show nI 0 = (0 : Int32) from rfl, allow0 hj8 a3]
        have e3 : (bd (fX6_its M_r11 (nI j) 4) fun t8 => if t8 ≤ 1 then some 1 else bd (fX6_its M_r11 (nI j) 4) fun t11 => some t11) = some (if (1 : Int32) < S_r4 j then S_r4 j else 1) := by
          rw [i4, bd_s, bd_s, g4]
          by_cases q : S_r4 j ≤ 1
          · rw [if_pos q, if_neg (by rw [fa_lt]; rw [fa_le] at q; omega)]
          · rw [if_neg q, if_pos (by rw [fa_lt]; rw [fa_le] at q; omega)]
        simp only [ite_true, e3, bd_s, in_v_v]
        rcases isW_c a3 (if (1 : Int32) < S_r4 j then S_r4 j else 1) 50 with ⟨q1, q2, e4⟩ | ⟨q, e4⟩
        · simp only [e4, bd_s, one0, ite_false]
          rw [fa_le] at q1 q2
          refine ⟨_, _, rfl, rfl, (show M_r11 (5 * j + 0) = S_r0 j from g0).symm, back (SS_upd0 hs hj ?_)⟩
          have q3 : (1 : Int) ≤ a3.toInt ∧ (S_r4 j).toInt ≤ a3.toInt := by
            by_cases q : (1 : Int32) < S_r4 j
            · rw [if_pos q] at q1; rw [fa_lt] at q; have : (1 : Int32).toInt = 1 := rfl; omega
            · rw [if_neg q] at q1; rw [fa_lt] at q; have : (1 : Int32).toInt = 1 := rfl; omega
          exact ⟨q3.1, q2, b3, b4, b5, b6, b7, b8, b9, q3.2⟩
        · simp only [e4, bd_s, ite_true]
          exact ⟨_, _, rfl, rfl, rfl, back hs⟩
      · rw [show nI 1 = (1 : Int32) from rfl, allow1 a3]
        simp only [show ((1 : Int32) = 0) = False from eq_false (by decide), show ((1 : Int32) = 3) = False from eq_false (by decide), show ((1 : Int32) = 4) = False from eq_false (by decide), ite_false, ite_true, bd_s, in_v_v]
        rcases isW_c a3 0 99 with ⟨q1, q2, e4⟩ | ⟨q, e4⟩
        · simp only [e4, bd_s, one0, ite_false]
          rw [fa_le] at q1 q2
          refine ⟨_, _, rfl, rfl, g1.symm, back (SS_upd1 hs hj ?_)⟩
          exact ⟨b1, b2, q1, q2, b5, b6, b7, b8, b9, b10⟩
        · simp only [e4, bd_s, ite_true]
          exact ⟨_, _, rfl, rfl, rfl, back hs⟩
      · rw [show nI 2 = (2 : Int32) from rfl, allow2 a3]
        simp only [show ((2 : Int32) = 0) = False from eq_false (by decide), show ((2 : Int32) = 3) = False from eq_false (by decide), show ((2 : Int32) = 4) = False from eq_false (by decide), show ((2 : Int32) = 1) = False from eq_false (by decide), ite_false, ite_true, bd_s, in_v_v]
        rcases isW_c a3 0 99 with ⟨q1, q2, e4⟩ | ⟨q, e4⟩
        · simp only [e4, bd_s, one0, ite_false]
          rw [fa_le] at q1 q2
          refine ⟨_, _, rfl, rfl, g2.symm, back (SS_upd2 hs hj ?_)⟩
          exact ⟨b1, b2, b3, b4, q1, q2, b7, b8, b9, b10⟩
        · simp only [e4, bd_s, ite_true]
          exact ⟨_, _, rfl, rfl, rfl, back hs⟩
      · rw [show nI 3 = (3 : Int32) from rfl, allow3 a3]
        simp only [show ((3 : Int32) = 0) = False from eq_false (by decide), show ((3 : Int32) = 1) = False from eq_false (by decide), show ((3 : Int32) = 2) = False from eq_false (by decide), ite_false, ite_true, bd_s, in_v_v]
        rcases isW_c a3 0 10 with ⟨q1, q2, e4⟩ | ⟨q, e4⟩
        · simp only [e4, bd_s, one0, ite_false]
          rw [fa_le] at q1 q2
          refine ⟨_, _, rfl, rfl, g3.symm, back (SS_upd3 hs hj ?_)⟩
          exact ⟨b1, b2, b3, b4, b5, b6, q1, q2, b9, b10⟩
        · simp only [e4, bd_s, ite_true]
          exact ⟨_, _, rfl, rfl, rfl, back hs⟩
      · rw [show nI 4 = (4 : Int32) from rfl, allow4 hj8 a3]
        simp only [show ((4 : Int32) = 0) = False from eq_false (by decide), show ((4 : Int32) = 1) = False from eq_false (by decide), show ((4 : Int32) = 2) = False from eq_false (by decide), show ((4 : Int32) = 3) = False from eq_false (by decide), ite_false, ite_true, i0, bd_s, in_v_v, show M_r11 (5 * j + 0) = S_r0 j from g0]
        rcases isW_c a3 0 (S_r0 j) with ⟨q1, q2, e4⟩ | ⟨q, e4⟩
        · simp only [e4, bd_s, one0, ite_false]
          rw [fa_le] at q1 q2
          refine ⟨_, _, rfl, rfl, g4.symm, back (SS_upd4 hs hj ?_)⟩
          exact ⟨b1, b2, b3, b4, b5, b6, b7, b8, q1, q2⟩
        · simp only [e4, bd_s, ite_true]
          exact ⟨_, _, rfl, rfl, rfl, back hs⟩
    · simp only [e2, bd_s, ite_true]
      exact ⟨_, _, rfl, rfl, rfl, back hs⟩
  · simp only [e, bd_s, ite_true]
    exact ⟨_, _, rfl, rfl, rfl, back hs⟩
set_option maxRecDepth 20000 in
set_option maxHeartbeats 2000000 in
theorem sim_of (E_x1 : Int32) (E_r0 : (Nat → Int32)) (M_x1 : Int32) (M_r0 : (Nat → Int32)) (L_x6 : Int32) (M_x2 : Int32) (L_x7 : Int32) (M_x33 : Int32) (S_x5 : Int32) (S_x6 : Int32) (S_x7 : Int32) (S_x8 : Int32) (S_x9 : Int32) (S_r0 : (Nat → Int32)) (S_r1 : (Nat → Int32)) (S_r2 : (Nat → Int32)) (S_r3 : (Nat → Int32)) (S_r4 : (Nat → Int32)) (M_x12 : Int32) (M_r11 : (Nat → Int32)) (M_r15 : (Nat → Int32)) (M_x18 : Int32) (M_r9 : (Nat → Int32)) (M_r10 : (Nat → Int32)) (H0_x1 : Int32) (H0_x2 : Int32) (H0_r0 : (Nat → Int32)) (H1_x1 : Int32) (H1_x2 : Int32) (H1_r0 : (Nat → Int32)) (H2_x1 : Int32) (H2_x2 : Int32) (H2_r0 : (Nat → Int32)) (H3_x1 : Int32) (H3_x2 : Int32) (H3_r0 : (Nat → Int32)) (M_r30 : (Nat → Int32)) (M_r31 : (Nat → Int32)) (M_r32 : (Nat → Int32)) (hR : Rel E_x1 E_r0 M_x1 M_r0 L_x6 M_x2 L_x7 M_x33 S_x5 S_x6 S_x7 S_x8 S_x9 S_r0 S_r1 S_r2 S_r3 S_r4 M_x12 M_r11 M_r15 M_x18 M_r9 M_r10 H0_x1 H0_x2 H0_r0 H1_x1 H1_x2 H1_r0 H2_x1 H2_x2 H2_r0 H3_x1 H3_x2 H3_r0 M_r30 M_r31 M_r32) (a1 : Int32) (a2 : Int32) : ∃ (t1 : Int32) (t2 : Int32), fX5_of S_r0 S_r1 S_r2 S_r3 S_r4 S_x5 S_x6 a1 a2 = some t1 ∧ fX6_of M_r11 M_r15 M_x12 a1 a2 = some t2 ∧ t1 = t2 ∧ Rel E_x1 E_r0 M_x1 M_r0 L_x6 M_x2 L_x7 M_x33 S_x5 S_x6 S_x7 S_x8 S_x9 S_r0 S_r1 S_r2 S_r3 S_r4 M_x12 M_r11 M_r15 M_x18 M_r9 M_r10 H0_x1 H0_x2 H0_r0 H1_x1 H1_x2 H1_r0 H2_x1 H2_x2 H2_r0 H3_x1 H3_x2 H3_r0 M_r30 M_r31 M_r32 := by
  have hR0 := hR
  obtain ⟨-, -, -, ⟨⟨n, hn, rfl, rfl, hs⟩, r0, -⟩, -⟩ := hR
  simp only [fX5_of, fX6_of, isSort6, in_0_5]
  rcases isSort_c hn a1 with ⟨j, hj, rfl, e⟩ | e
  · obtain ⟨g0, g1, g2, g3, g4, -⟩ := hs j hj
    simp only [e, bd_s, one0, ite_false, nI_clamp (show j < 2 ^ 31 by omega), ckI_nI (show j < 8 by omega) (by omega), fX2_row0, fX2_row1, fX2_row2, fX2_row3, fX2_row4]
    rcases isW_c a2 0 5 with ⟨h1, h2, e2⟩ | ⟨h, e2⟩
    · obtain ⟨k, hk, rfl⟩ := rngN (x := a2) (n := 5) h1 h2 (by omega)
      simp only [e2, bd_s, one0, ite_false]
      rcases (by omega : k = 0 ∨ k = 1 ∨ k = 2 ∨ k = 3 ∨ k = 4 ∨ k = 5) with rfl | rfl | rfl | rfl | rfl | rfl
      · exact ⟨_, _, rfl, by rw [if_neg (by decide), its_eq (show j < 8 by omega) (show 0 < 5 by omega)]; rfl, g0.symm, hR0⟩
      · exact ⟨_, _, rfl, by rw [if_neg (by decide), its_eq (show j < 8 by omega) (show 1 < 5 by omega)]; rfl, g1.symm, hR0⟩
      · exact ⟨_, _, rfl, by rw [if_neg (by decide), its_eq (show j < 8 by omega) (show 2 < 5 by omega)]; rfl, g2.symm, hR0⟩
      · exact ⟨_, _, rfl, by rw [if_neg (by decide), its_eq (show j < 8 by omega) (show 3 < 5 by omega)]; rfl, g3.symm, hR0⟩
      · exact ⟨_, _, rfl, by rw [if_neg (by decide), its_eq (show j < 8 by omega) (show 4 < 5 by omega)]; rfl, g4.symm, hR0⟩
      · rw [if_pos (by decide), if_pos (by decide)]
        have eg : fX6_isGood M_r11 M_r15 (nI j) = fX2_isGood S_r2 S_x6 (nI j) := good6 (by omega) g2 r0
        rw [eg]
        rcases good_c S_r2 S_x6 (show j < 8 by omega) with e3 | e3 <;> simp only [e3, bd_s] <;> exact ⟨_, _, rfl, rfl, rfl, hR0⟩
    · simp only [e2, bd_s, ite_true]
      exact ⟨_, _, rfl, rfl, rfl, hR0⟩
  · simp only [e, bd_s, ite_true]
    exact ⟨_, _, rfl, rfl, rfl, hR0⟩
set_option maxRecDepth 20000 in
set_option maxHeartbeats 2000000 in
theorem sim_rule (E_x1 : Int32) (E_r0 : (Nat → Int32)) (M_x1 : Int32) (M_r0 : (Nat → Int32)) (L_x6 : Int32) (M_x2 : Int32) (L_x7 : Int32) (M_x33 : Int32) (S_x5 : Int32) (S_x6 : Int32) (S_x7 : Int32) (S_x8 : Int32) (S_x9 : Int32) (S_r0 : (Nat → Int32)) (S_r1 : (Nat → Int32)) (S_r2 : (Nat → Int32)) (S_r3 : (Nat → Int32)) (S_r4 : (Nat → Int32)) (M_x12 : Int32) (M_r11 : (Nat → Int32)) (M_r15 : (Nat → Int32)) (M_x18 : Int32) (M_r9 : (Nat → Int32)) (M_r10 : (Nat → Int32)) (H0_x1 : Int32) (H0_x2 : Int32) (H0_r0 : (Nat → Int32)) (H1_x1 : Int32) (H1_x2 : Int32) (H1_r0 : (Nat → Int32)) (H2_x1 : Int32) (H2_x2 : Int32) (H2_r0 : (Nat → Int32)) (H3_x1 : Int32) (H3_x2 : Int32) (H3_r0 : (Nat → Int32)) (M_r30 : (Nat → Int32)) (M_r31 : (Nat → Int32)) (M_r32 : (Nat → Int32)) (hR : Rel E_x1 E_r0 M_x1 M_r0 L_x6 M_x2 L_x7 M_x33 S_x5 S_x6 S_x7 S_x8 S_x9 S_r0 S_r1 S_r2 S_r3 S_r4 M_x12 M_r11 M_r15 M_x18 M_r9 M_r10 H0_x1 H0_x2 H0_r0 H1_x1 H1_x2 H1_r0 H2_x1 H2_x2 H2_r0 H3_x1 H3_x2 H3_r0 M_r30 M_r31 M_r32) (a1 : Int32) : ∃ (t1 : Int32) (t2 : Int32), fX5_rule S_x6 S_x7 S_x8 S_x9 a1 = some t1 ∧ fX6_rule M_r15 a1 = some t2 ∧ t1 = t2 ∧ Rel E_x1 E_r0 M_x1 M_r0 L_x6 M_x2 L_x7 M_x33 S_x5 S_x6 S_x7 S_x8 S_x9 S_r0 S_r1 S_r2 S_r3 S_r4 M_x12 M_r11 M_r15 M_x18 M_r9 M_r10 H0_x1 H0_x2 H0_r0 H1_x1 H1_x2 H1_r0 H2_x1 H2_x2 H2_r0 H3_x1 H3_x2 H3_r0 M_r30 M_r31 M_r32 := by
  have hR0 := hR
  obtain ⟨-, -, -, ⟨-, r0, r1, r2, r3, -⟩, -⟩ := hR
  simp only [fX5_rule, fX6_rule, in_0_3]
  rcases isW_c a1 0 3 with ⟨h1, h2, e⟩ | ⟨h, e⟩
  · obtain ⟨j, hj, rfl⟩ := rngN (n := 3) h1 h2 (by omega)
    simp only [e, bd_s, one0, ite_false, ckI_nI (show j < 4 by omega) (by omega), nI_clamp (show j < 2 ^ 31 by omega)]
    rcases (by omega : j = 0 ∨ j = 1 ∨ j = 2 ∨ j = 3) with rfl | rfl | rfl | rfl
    · exact ⟨_, _, rfl, rfl, r0.symm, hR0⟩
    · exact ⟨_, _, rfl, rfl, r1.symm, hR0⟩
    · exact ⟨_, _, rfl, rfl, r2.symm, hR0⟩
    · exact ⟨_, _, rfl, rfl, r3.symm, hR0⟩
  · have k0 : ¬ a1 = 0 := fun q => h (by rw [q]; decide)
    have k1 : ¬ a1 = 1 := fun q => h (by rw [q]; decide)
    have k2 : ¬ a1 = 2 := fun q => h (by rw [q]; decide)
    have k3 : ¬ a1 = 3 := fun q => h (by rw [q]; decide)
    simp only [e, bd_s, ite_true, if_neg k0, if_neg k1, if_neg k2, if_neg k3]
    exact ⟨_, _, rfl, rfl, rfl, hR0⟩
set_option maxRecDepth 20000 in
set_option maxHeartbeats 2000000 in
theorem sim_keep (E_x1 : Int32) (E_r0 : (Nat → Int32)) (M_x1 : Int32) (M_r0 : (Nat → Int32)) (L_x6 : Int32) (M_x2 : Int32) (L_x7 : Int32) (M_x33 : Int32) (S_x5 : Int32) (S_x6 : Int32) (S_x7 : Int32) (S_x8 : Int32) (S_x9 : Int32) (S_r0 : (Nat → Int32)) (S_r1 : (Nat → Int32)) (S_r2 : (Nat → Int32)) (S_r3 : (Nat → Int32)) (S_r4 : (Nat → Int32)) (M_x12 : Int32) (M_r11 : (Nat → Int32)) (M_r15 : (Nat → Int32)) (M_x18 : Int32) (M_r9 : (Nat → Int32)) (M_r10 : (Nat → Int32)) (H0_x1 : Int32) (H0_x2 : Int32) (H0_r0 : (Nat → Int32)) (H1_x1 : Int32) (H1_x2 : Int32) (H1_r0 : (Nat → Int32)) (H2_x1 : Int32) (H2_x2 : Int32) (H2_r0 : (Nat → Int32)) (H3_x1 : Int32) (H3_x2 : Int32) (H3_r0 : (Nat → Int32)) (M_r30 : (Nat → Int32)) (M_r31 : (Nat → Int32)) (M_r32 : (Nat → Int32)) (hR : Rel E_x1 E_r0 M_x1 M_r0 L_x6 M_x2 L_x7 M_x33 S_x5 S_x6 S_x7 S_x8 S_x9 S_r0 S_r1 S_r2 S_r3 S_r4 M_x12 M_r11 M_r15 M_x18 M_r9 M_r10 H0_x1 H0_x2 H0_r0 H1_x1 H1_x2 H1_r0 H2_x1 H2_x2 H2_r0 H3_x1 H3_x2 H3_r0 M_r30 M_r31 M_r32) (a1 : Int32) (a2 : Int32) : ∃ (t1 : Int32) (t2 : Int32), fX5_keep a1 a2 = some t1 ∧ fX6_keep a1 a2 = some t2 ∧ t1 = t2 ∧ Rel E_x1 E_r0 M_x1 M_r0 L_x6 M_x2 L_x7 M_x33 S_x5 S_x6 S_x7 S_x8 S_x9 S_r0 S_r1 S_r2 S_r3 S_r4 M_x12 M_r11 M_r15 M_x18 M_r9 M_r10 H0_x1 H0_x2 H0_r0 H1_x1 H1_x2 H1_r0 H2_x1 H2_x2 H2_r0 H3_x1 H3_x2 H3_r0 M_r30 M_r31 M_r32 := by
  simp only [fX5_keep, fX6_keep, in_1_99, in_0_999, fX5_fewestSteps]
  rcases isW_c a1 1 99 with ⟨h1, h2, e⟩ | ⟨h, e⟩
  · obtain ⟨x, hx, rfl⟩ := rngN (x := a1) (n := 99) (by rw [fa_le] at h1 ⊢; exact Int.le_trans (by decide) h1) h2 (by omega)
    have hx1 : 1 ≤ x := (nI_leI (a := 1) (by omega) (by omega)).mp h1
    simp only [e, bd_s, one0, ite_false]
    rcases isW_c a2 0 999 with ⟨h3, h4, e2⟩ | ⟨h, e2⟩
    · obtain ⟨y, hy, rfl⟩ := rngN (x := a2) (n := 999) h3 h4 (by omega)
      simp only [e2, bd_s, one0, ite_false]
      have kx : ¬ nI x = 0 := nI_ne0 (by omega) (by omega)
      have k0 : (0 : Int32) < nI x := (nI_ltI (a := 0) (by omega) (by omega)).mpr (by omega)
      have ev : (nI y + nI x - 1) / nI x = nI ((y + x - 1) / x) := by
        rw [nI_add, show nI (y + x) - (1 : Int32) = nI (y + x - 1) from pk_sub (b := 1) (by omega), pk_div (by omega) (by omega) (by omega)]
      simp only [if_pos k0, ckN_ok kx, ev]
      by_cases hy0 : y = 0
      · subst hy0
        rw [if_neg (by decide)]
        have : (0 + x - 1) / x = 0 := Nat.div_eq_of_lt (by omega)
        rw [this]
        exact ⟨_, _, rfl, rfl, rfl, hR⟩
      · have k1 : (0 : Int32) < nI y := (nI_ltI (a := 0) (by omega) (by omega)).mpr (by omega)
        rw [if_pos k1]
        exact ⟨_, _, rfl, rfl, rfl, hR⟩
    · simp only [e2, bd_s, ite_true]
      exact ⟨_, _, rfl, rfl, rfl, hR⟩
  · simp only [e, bd_s, ite_true]
    exact ⟨_, _, rfl, rfl, rfl, hR⟩
set_option maxRecDepth 20000 in
set_option maxHeartbeats 2000000 in
theorem sim_torn (E_x1 : Int32) (E_r0 : (Nat → Int32)) (M_x1 : Int32) (M_r0 : (Nat → Int32)) (L_x6 : Int32) (M_x2 : Int32) (L_x7 : Int32) (M_x33 : Int32) (S_x5 : Int32) (S_x6 : Int32) (S_x7 : Int32) (S_x8 : Int32) (S_x9 : Int32) (S_r0 : (Nat → Int32)) (S_r1 : (Nat → Int32)) (S_r2 : (Nat → Int32)) (S_r3 : (Nat → Int32)) (S_r4 : (Nat → Int32)) (M_x12 : Int32) (M_r11 : (Nat → Int32)) (M_r15 : (Nat → Int32)) (M_x18 : Int32) (M_r9 : (Nat → Int32)) (M_r10 : (Nat → Int32)) (H0_x1 : Int32) (H0_x2 : Int32) (H0_r0 : (Nat → Int32)) (H1_x1 : Int32) (H1_x2 : Int32) (H1_r0 : (Nat → Int32)) (H2_x1 : Int32) (H2_x2 : Int32) (H2_r0 : (Nat → Int32)) (H3_x1 : Int32) (H3_x2 : Int32) (H3_r0 : (Nat → Int32)) (M_r30 : (Nat → Int32)) (M_r31 : (Nat → Int32)) (M_r32 : (Nat → Int32)) (hR : Rel E_x1 E_r0 M_x1 M_r0 L_x6 M_x2 L_x7 M_x33 S_x5 S_x6 S_x7 S_x8 S_x9 S_r0 S_r1 S_r2 S_r3 S_r4 M_x12 M_r11 M_r15 M_x18 M_r9 M_r10 H0_x1 H0_x2 H0_r0 H1_x1 H1_x2 H1_r0 H2_x1 H2_x2 H2_r0 H3_x1 H3_x2 H3_r0 M_r30 M_r31 M_r32)  : ∃ (t1 : Int32) (t2 : Int32), fX5_torn L_x7 = some t1 ∧ fX6_torn M_x33 = some t2 ∧ t1 = t2 ∧ Rel E_x1 E_r0 M_x1 M_r0 L_x6 M_x2 L_x7 M_x33 S_x5 S_x6 S_x7 S_x8 S_x9 S_r0 S_r1 S_r2 S_r3 S_r4 M_x12 M_r11 M_r15 M_x18 M_r9 M_r10 H0_x1 H0_x2 H0_r0 H1_x1 H1_x2 H1_r0 H2_x1 H2_x2 H2_r0 H3_x1 H3_x2 H3_r0 M_r30 M_r31 M_r32 := by
  exact ⟨L_x7, M_x33, rfl, rfl, hR.2.2.1, hR⟩
