set_option maxRecDepth 20000 in
set_option maxHeartbeats 2000000 in
theorem sim_part (E_x1 : Int32) (E_r0 : (Nat → Int32)) (M_x1 : Int32) (M_r0 : (Nat → Int32)) (L_x6 : Int32) (M_x2 : Int32) (L_x7 : Int32) (M_x33 : Int32) (S_x5 : Int32) (S_x6 : Int32) (S_x7 : Int32) (S_x8 : Int32) (S_x9 : Int32) (S_r0 : (Nat → Int32)) (S_r1 : (Nat → Int32)) (S_r2 : (Nat → Int32)) (S_r3 : (Nat → Int32)) (S_r4 : (Nat → Int32)) (M_x12 : Int32) (M_r11 : (Nat → Int32)) (M_r15 : (Nat → Int32)) (M_x18 : Int32) (M_r9 : (Nat → Int32)) (M_r10 : (Nat → Int32)) (H0_x1 : Int32) (H0_x2 : Int32) (H0_r0 : (Nat → Int32)) (H1_x1 : Int32) (H1_x2 : Int32) (H1_r0 : (Nat → Int32)) (H2_x1 : Int32) (H2_x2 : Int32) (H2_r0 : (Nat → Int32)) (H3_x1 : Int32) (H3_x2 : Int32) (H3_r0 : (Nat → Int32)) (M_r30 : (Nat → Int32)) (M_r31 : (Nat → Int32)) (M_r32 : (Nat → Int32)) (T_r0 : (Nat → Int32)) (T_x1 : Int32) (T_x2 : Int32) (T_x3 : Int32) (T_x4 : Int32) (T_x5 : Int32) (T_x6 : Int32) (M_g24 : Int64) (M_g25 : Int64) (M_g26 : Int64) (M_r21 : (Nat → Int32)) (M_r22 : (Nat → Int32)) (M_x19 : Int32) (M_x20 : Int32) (M_x23 : Int32) (hR : Rel E_x1 E_r0 M_x1 M_r0 L_x6 M_x2 L_x7 M_x33 S_x5 S_x6 S_x7 S_x8 S_x9 S_r0 S_r1 S_r2 S_r3 S_r4 M_x12 M_r11 M_r15 M_x18 M_r9 M_r10 H0_x1 H0_x2 H0_r0 H1_x1 H1_x2 H1_r0 H2_x1 H2_x2 H2_r0 H3_x1 H3_x2 H3_r0 M_r30 M_r31 M_r32) (a1 : Int32) (a2 : Int32) : ∃ (t1 : (Int32 × (Nat → Int32) × Int32 × Int32 × Int32 × Int32 × Int32 × Int32)) (t2 : (Int32 × Int64 × Int64 × Int64 × (Nat → Int32) × (Nat → Int32) × Int32 × Int32 × Int32)), fX5_part S_r0 S_r1 S_r2 S_r3 S_r4 S_x5 S_x6 S_x7 S_x8 T_r0 T_x1 T_x2 T_x3 T_x4 T_x5 T_x6 a1 a2 = some t1 ∧ fX6_part M_g24 M_g25 M_g26 M_r11 M_r15 M_r21 M_r22 M_x12 M_x18 M_x19 M_x20 M_x23 a1 a2 = some t2 ∧ t1.1 = t2.1 ∧ Rel E_x1 E_r0 M_x1 M_r0 L_x6 M_x2 L_x7 M_x33 S_x5 S_x6 S_x7 S_x8 S_x9 S_r0 S_r1 S_r2 S_r3 S_r4 M_x12 M_r11 M_r15 M_x18 M_r9 M_r10 H0_x1 H0_x2 H0_r0 H1_x1 H1_x2 H1_r0 H2_x1 H2_x2 H2_r0 H3_x1 H3_x2 H3_r0 M_r30 M_r31 M_r32 := by
  have hR0 := hR
  obtain ⟨-, -, -, ⟨⟨n, hn, rfl, rfl, hs⟩, r0, r1, r2, r3, m1, m2, m3, m4, m5, m6, m7, m8⟩, rfl, -⟩ := hR
  have hB : SB (n, S_r0, S_r1, S_r2, S_r3, S_r4, S_x6, S_x7, S_x8) := ⟨hn, fun s h => (hs s h).2.2.2.2.2, m1, m2, m3, m4, m5, m6⟩
  simp only [fX5_part, fX6_part, in_0_9, in_0_1]
  rcases isW_c a1 0 9 with ⟨-, -, e1⟩ | ⟨-, e1⟩
  · rcases isW_c a2 0 1 with ⟨-, -, e2⟩ | ⟨-, e2⟩
    · simp only [e1, e2, bd_s, one0, ite_false, fail5 hn, fail6 hn hs]
      by_cases c : nI (gmask (failB S_r3 a1) n) = 0
      · rw [if_pos c]
        obtain ⟨t', h1, e, h2⟩ := loop_ot (fX6_part_b69 a2 (nI (gmask (failB S_r3 a1) n)) M_r11 M_r15 (nI n) (-4)) (fun _ _ => True) (fun t => ∃ e, t = .inr e) 0 (v := ((0 : Int32), M_g24, M_g25, M_g26, M_r21, M_r22, M_x19, M_x20, M_x23)) (by omega) trivial (by intro k v h; omega) (by
          rintro ⟨b1, y1, y2, y3, y4, y5, y6, y7, y8⟩ -
          unfold fX6_part_b69
          dsimp only
          rw [if_pos c]
          split <;> exact ⟨_, rfl, _, rfl⟩)
        rw [h1, bd_s, h2]
        exact ⟨_, _, rfl, rfl, rfl, hR0⟩
      · rw [if_neg c]
        obtain ⟨t, t', h1, h2, h3⟩ := loop_twoO (fX5_part_b40 a2 (nI (gmask (failB S_r3 a1) n)) S_r1 S_r3 (nI n) S_r0 S_r2 S_r4 S_x6 S_x7 S_x8) (fX6_part_b69 a2 (nI (gmask (failB S_r3 a1) n)) M_r11 M_r15 (nI n) (-4))
          (fun i v v' => v.1 = nI i ∧ v'.1 = nI i)
          (fun t t' => (∃ z z', t = .inl z ∧ t' = .inl z' ∧ z.1 = z'.1) ∨ (∃ e e', t = .inr e ∧ t' = .inr e')) 100 (by
            rintro i ⟨b1, y1, y2, y3, y4, y5, y6, y7⟩ ⟨d1, x1, x2, x3, x4, x5, x6, x7, x8⟩ hi ⟨q1, q2⟩
            dsimp only at q1 q2
            subst q1; subst q2
            have hc : ¬ (100 : Int32) ≤ nI i := nle (n := 100) hi (by omega)
            have ei := nI_toInt (n := i) (by omega)
            have hk : VO (1 : Int32) (nI i) := ⟨by decide, by decide, by omega, by omega, fun q => absurd q (by decide)⟩
            obtain ⟨l, l1, l2, l3⟩ := least5 hB (failB S_r3 a1) (w := nI i) (by omega) (by omega)
            dsimp only at l2
            obtain ⟨T, g1, g2⟩ := part6_in hs hB r0 r1 r2 hk a2 (nI (gmask (failB S_r3 a1) n)) x1 x2 x3 x4 x5 x6 x7 x8
            have ls : ∀ {p : Nat}, p < 100 → Prt (n, S_r0, S_r1, S_r2, S_r3, S_r4, S_x6, S_x7, S_x8) (nI i) (nI (gmask (failB S_r3 a1) n)) p → l ≤ p ∧ Prt (n, S_r0, S_r1, S_r2, S_r3, S_r4, S_x6, S_x7, S_x8) (nI i) (nI (gmask (failB S_r3 a1) n)) l := fun hp h => part_least hB (failB S_r3 a1) (w := nI i) (by omega) (by omega) l3 hp h
            unfold fX5_part_b40 fX6_part_b69
            dsimp only
            rw [if_neg hc, if_neg hc, if_neg c, l2, bd_s, g1, bd_s]
            have el := nI_toInt (n := l) (by omega)
            have y100 : (100 : Int32).toInt = 100 := rfl
            by_cases d : (100 : Int32) ≤ nI l
            · rw [if_pos d]
              rw [fa_le, y100, el] at d
              rcases g2 with ⟨z, p, rfl, z1, z2, z3, z4⟩ | ⟨e, rfl, z4⟩
              · have := (ls z2 z3).1; omega
              · exact Or.inl ⟨_, _, rfl, rfl, nI_1 i, nI_1 i⟩
            · rw [if_neg d]
              rw [fa_le, y100, el] at d
              obtain ⟨pf, g4, -⟩ := make5 hn S_r0 S_r1 S_r2 S_r3 S_r4 S_x6 S_x7 S_x8 y1 1 (nI i) (nI l)
              rw [g4, bd_s]
              dsimp only
              rw [holds5 hB hk (vp_nI (show l < 100 by omega)), bd_s]
              have no : ¬ Prt (n, S_r0, S_r1, S_r2, S_r3, S_r4, S_x6, S_x7, S_x8) (nI i) (nI (gmask (failB S_r3 a1) n)) l → ∃ e, T = .inr e := by
                intro h
                rcases g2 with ⟨z, p, rfl, z1, z2, z3, z4⟩ | ⟨e, rfl, z4⟩
                · exact absurd (ls z2 z3).2 h
                · exact ⟨e, rfl⟩
              by_cases f : oWhole (n, S_r0, S_r1, S_r2, S_r3, S_r4, S_x6, S_x7, S_x8) 1 (nI i) (nI l) = nI (gmask (failB S_r3 a1) n)
              · rw [if_pos f]
                by_cases r : rB (n, S_r0, S_r1, S_r2, S_r3, S_r4, S_x6, S_x7, S_x8) 1 (nI i) (nI l) = true
                · simp only [if_pos r, one0, ite_false]
                  rcases g2 with ⟨z, p, rfl, z1, z2, z3, z4⟩ | ⟨e, rfl, z4⟩
                  · have hpl : p = l := by
                      have h1 := (ls z2 z3).1
                      rcases Nat.lt_or_ge l p with h | h
                      · exact absurd ⟨r, f⟩ (z4 l h)
                      · omega
                    rw [hpl] at z1
                    by_cases k0 : a2 = 0
                    · rw [if_pos k0] at z1 ⊢
                      exact Or.inr ⟨_, _, rfl, rfl, Or.inl ⟨_, _, rfl, rfl, z1.symm⟩⟩
                    · rw [if_neg k0] at z1 ⊢
                      exact Or.inr ⟨_, _, rfl, rfl, Or.inl ⟨_, _, rfl, rfl, z1.symm⟩⟩
                  · exact absurd ⟨r, f⟩ (z4 l (by omega))
                · simp only [if_neg r, ite_true]
                  obtain ⟨e, rfl⟩ := no (fun q => r q.1)
                  exact Or.inl ⟨_, _, rfl, rfl, nI_1 i, nI_1 i⟩
              · rw [if_neg f]
                obtain ⟨e, rfl⟩ := no (fun q => f q.2)
                exact Or.inl ⟨_, _, rfl, rfl, nI_1 i, nI_1 i⟩) (by
            rintro ⟨b1, y1, y2, y3, y4, y5, y6, y7⟩ ⟨d1, x1, x2, x3, x4, x5, x6, x7, x8⟩ ⟨q1, q2⟩
            dsimp only at q1 q2
            subst q1; subst q2
            unfold fX5_part_b40 fX6_part_b69
            dsimp only
            rw [if_pos (show (100 : Int32) ≤ nI 100 by decide), if_pos (show (100 : Int32) ≤ nI 100 by decide)]
            exact ⟨_, _, rfl, rfl, Or.inr ⟨_, _, rfl, rfl⟩⟩) 100 0 ((0 : Int32), T_r0, T_x1, T_x2, T_x3, T_x4, T_x5, T_x6) ((0 : Int32), M_g24, M_g25, M_g26, M_r21, M_r22, M_x19, M_x20, M_x23) 1000 (by omega) (by omega) ⟨rfl, rfl⟩
        rw [h1, h2, bd_s, bd_s]
        rcases h3 with ⟨z, z', rfl, rfl, f⟩ | ⟨e, e', rfl, rfl⟩
        · exact ⟨_, _, rfl, rfl, f, hR0⟩
        · exact ⟨_, _, rfl, rfl, rfl, hR0⟩
    · simp only [e1, e2, bd_s, one0, ite_false, ite_true]; exact ⟨_, _, rfl, rfl, rfl, hR0⟩
  · simp only [e1, bd_s, ite_true]; exact ⟨_, _, rfl, rfl, rfl, hR0⟩
set_option maxRecDepth 20000 in
set_option maxHeartbeats 2000000 in
theorem sim_edge (E_x1 : Int32) (E_r0 : (Nat → Int32)) (M_x1 : Int32) (M_r0 : (Nat → Int32)) (L_x6 : Int32) (M_x2 : Int32) (L_x7 : Int32) (M_x33 : Int32) (S_x5 : Int32) (S_x6 : Int32) (S_x7 : Int32) (S_x8 : Int32) (S_x9 : Int32) (S_r0 : (Nat → Int32)) (S_r1 : (Nat → Int32)) (S_r2 : (Nat → Int32)) (S_r3 : (Nat → Int32)) (S_r4 : (Nat → Int32)) (M_x12 : Int32) (M_r11 : (Nat → Int32)) (M_r15 : (Nat → Int32)) (M_x18 : Int32) (M_r9 : (Nat → Int32)) (M_r10 : (Nat → Int32)) (H0_x1 : Int32) (H0_x2 : Int32) (H0_r0 : (Nat → Int32)) (H1_x1 : Int32) (H1_x2 : Int32) (H1_r0 : (Nat → Int32)) (H2_x1 : Int32) (H2_x2 : Int32) (H2_r0 : (Nat → Int32)) (H3_x1 : Int32) (H3_x2 : Int32) (H3_r0 : (Nat → Int32)) (M_r30 : (Nat → Int32)) (M_r31 : (Nat → Int32)) (M_r32 : (Nat → Int32)) (P_r0 : (Nat → Int32)) (P_r1 : (Nat → Int32)) (P_r2 : (Nat → Int32)) (P_r3 : (Nat → Int32)) (P_r4 : (Nat → Int32)) (P_x5 : Int32) (P_x6 : Int32) (P_x7 : Int32) (P_x8 : Int32) (P_x9 : Int32) (T_r0 : (Nat → Int32)) (T_x1 : Int32) (T_x2 : Int32) (T_x3 : Int32) (T_x4 : Int32) (T_x5 : Int32) (T_x6 : Int32) (M_g24 : Int64) (M_g25 : Int64) (M_g26 : Int64) (M_r21 : (Nat → Int32)) (M_r22 : (Nat → Int32)) (M_x19 : Int32) (M_x20 : Int32) (M_x23 : Int32) (hR : Rel E_x1 E_r0 M_x1 M_r0 L_x6 M_x2 L_x7 M_x33 S_x5 S_x6 S_x7 S_x8 S_x9 S_r0 S_r1 S_r2 S_r3 S_r4 M_x12 M_r11 M_r15 M_x18 M_r9 M_r10 H0_x1 H0_x2 H0_r0 H1_x1 H1_x2 H1_r0 H2_x1 H2_x2 H2_r0 H3_x1 H3_x2 H3_r0 M_r30 M_r31 M_r32) (a1 : Int32) : ∃ (t1 : (Int32 × (Nat → Int32) × (Nat → Int32) × (Nat → Int32) × (Nat → Int32) × (Nat → Int32) × Int32 × Int32 × Int32 × Int32 × Int32 × (Nat → Int32) × Int32 × Int32 × Int32 × Int32 × Int32 × Int32)) (t2 : (Int32 × Int64 × Int64 × Int64 × (Nat → Int32) × (Nat → Int32) × (Nat → Int32) × Int32 × Int32 × Int32)), fX5_edge P_r0 P_r1 P_r2 P_r3 P_r4 P_x5 P_x6 P_x7 P_x8 P_x9 S_r0 S_r1 S_r2 S_r3 S_r4 S_x5 S_x6 S_x7 S_x8 S_x9 T_r0 T_x1 T_x2 T_x3 T_x4 T_x5 T_x6 a1 = some t1 ∧ fX6_edge M_g24 M_g25 M_g26 M_r11 M_r15 M_r21 M_r22 M_x12 M_x18 M_x19 M_x20 M_x23 a1 = some t2 ∧ t1.1 = t2.1 ∧ Rel E_x1 E_r0 M_x1 M_r0 L_x6 M_x2 L_x7 M_x33 S_x5 S_x6 S_x7 S_x8 S_x9 S_r0 S_r1 S_r2 S_r3 S_r4 M_x12 t2.2.2.2.2.1 M_r15 M_x18 M_r9 M_r10 H0_x1 H0_x2 H0_r0 H1_x1 H1_x2 H1_r0 H2_x1 H2_x2 H2_r0 H3_x1 H3_x2 H3_r0 M_r30 M_r31 M_r32 := by
  have hR0 := hR
  obtain ⟨z1, z2, z3, ⟨⟨n, hn, rfl, rfl, hs⟩, r0, r1, r2, r3, m1, m2, m3, m4, m5, m6, m7, m8⟩, rfl, z4⟩ := hR
  have hr : VR S_x6 S_x7 S_x8 := ⟨m1, m2, m3, m4, m5, m6⟩
  unfold fX5_edge fX6_edge
  rw [isSort6]
  rcases isSort_c hn a1 with ⟨s, hj, rfl, e1⟩ | e1
  · have hS' := SS_cp hn hs P_r0 P_r1 P_r2 P_r3 P_r4
    obtain ⟨t', k1, k2, k3⟩ := edge6 hn hj hS' hr r0 r1 r2 (M_r11 (5 * s + 2)) M_g24 M_g25 M_g26 M_r21 M_r22 M_x19 M_x20 M_x23
    have e11 : upd t'.2.2.2.2.1 (5 * s + 2) (M_r11 (5 * s + 2)) = M_r11 := by
      funext j
      rw [upd_at]
      by_cases c : j = 5 * s + 2
      · rw [if_pos c, c]
      · rw [if_neg c, k3 j c]
    have hone := (hS' s hj).2.2.2.2.2
    have hS0 := SS_upd2 (v := (0 : Int32)) hS' hj (by unfold ROne at hone ⊢; have : (0 : Int32).toInt = 0 := rfl; omega)
    have hB0 := SB_of hn hS0 hr
    have hh := (hs s hj).2.2.2.2.2
    have y1 : (1 : Int32).toInt = 1 := rfl
    obtain ⟨st, hst1, hst2, hst3⟩ : ∃ st : Nat, (if (1 : Int32) < S_r1 s then S_r1 s else 1) = nI st ∧ 1 ≤ st ∧ st ≤ 99 ∧ (S_r1 s).toInt ≤ (st : Int) ∧ ∀ p : Nat, 1 ≤ p → (S_r1 s).toInt ≤ (p : Int) → st ≤ p := by
      unfold ROne at hh
      by_cases c : (1 : Int32) < S_r1 s
      · rw [if_pos c]
        rw [fa_lt, y1] at c
        exact ⟨(S_r1 s).toInt.toNat, eq32 (by rw [nI_toInt (by omega)]; omega), by omega, by omega, by omega, by intro p h1 h2; omega⟩
      · rw [if_neg c]
        rw [fa_lt, y1] at c
        exact ⟨1, rfl, by omega, by omega, by omega, by intro p h1 h2; omega⟩
    obtain ⟨hst4, hst5, hst6⟩ := hst3
    obtain ⟨t, L, g1, g2, g3⟩ := edge5 hB0 hj (st := st) (by omega) (by rw [cp8_at (by omega)]; omega) T_r0 T_x1 T_x2 T_x3 T_x4 T_x5 T_x6
    have b0 : ¬ (1 : Int32) <<< (nI s &&& 31) = 0 := by
      rw [shl1 s (by omega)]
      intro q
      have e : ∀ s, s < 8 → 0 < 2 ^ s ∧ 2 ^ s < 256 := by decide
      have e' := e s (by omega)
      have := nI_toInt (n := 2 ^ s) (by omega)
      rw [q] at this
      have y0 : (0 : Int32).toInt = 0 := rfl
      omega
    have key := Min_Lst (M := fun v => ¬ (1 : Int32) <<< (nI s &&& 31) = 0 ∧ GoOn (eQ n (cp8 S_r0 P_r0) (cp8 S_r1 P_r1) (cp8 S_r2 P_r2) (cp8 S_r3 P_r3) (cp8 S_r4 P_r4) S_x6 S_x7 S_x8 s (nI v)) 0 ((1 : Int32) <<< (nI s &&& 31)) 1 100) (hi := 100) g3 (by omega) (by
      intro v hv
      have ev := nI_toInt (n := v) (by omega)
      have hSv := SS_upd2 (v := nI v) hS' hj (by unfold ROne at hone ⊢; omega)
      have hBv := SB_of hn hSv hr
      constructor
      · rintro ⟨p, h1, h2, h3⟩
        refine ⟨b0, p, by omega, h2, ?_⟩
        rw [wh_one (Q := eQ n (cp8 S_r0 P_r0) (cp8 S_r1 P_r1) (cp8 S_r2 P_r2) (cp8 S_r3 P_r3) (cp8 S_r4 P_r4) S_x6 S_x7 S_x8 s (nI v)) hn hj]
        refine (edge_iff hB0 hBv hj).mpr ⟨?_, ?_⟩
        · rw [fa_lt, nI_toInt (by omega), cp8_at (by omega)]; omega
        · rw [ev]; exact h3
      · rintro ⟨-, p, h1, h2, h3⟩
        rw [wh_one (Q := eQ n (cp8 S_r0 P_r0) (cp8 S_r1 P_r1) (cp8 S_r2 P_r2) (cp8 S_r3 P_r3) (cp8 S_r4 P_r4) S_x6 S_x7 S_x8 s (nI v)) hn hj] at h3
        obtain ⟨h4, h5⟩ := (edge_iff hB0 hBv hj).mp h3
        rw [fa_lt, nI_toInt (by omega), cp8_at (by omega)] at h4
        rw [ev] at h5
        exact ⟨p, hst6 p h1 (by omega), h2, h5⟩)
    have hx := Lst_eq key k2
    simp only [e1, bd_s, one0, ite_false, copy_eq, i2' (show s < 8 by omega), k1, i52 s (by omega), ckI_nI (show 5 * s + 2 < 40 by omega) (by omega), ckI_nI (show s < 8 by omega) (by omega), nI_clamp (show 5 * s + 2 < 2 ^ 31 by omega), nI_clamp (show s < 2 ^ 31 by omega), e11, hst1, g1]
    have l1 := g3.1
    by_cases c : t.1 ≤ 99
    · rw [if_pos c]
      refine ⟨_, _, rfl, rfl, ?_, hR0⟩
      dsimp only
      rw [g2, fa_le, nI_toInt (by omega)] at c
      have y99 : (99 : Int32).toInt = 99 := rfl
      rw [g2, ← hx, if_pos (by omega)]
    · rw [if_neg c]
      refine ⟨_, _, rfl, rfl, ?_, hR0⟩
      dsimp only
      rw [g2, fa_le, nI_toInt (by omega)] at c
      have y99 : (99 : Int32).toInt = 99 := rfl
      rw [← hx, if_neg (by omega)]
  · simp only [e1, bd_s, ite_true]; exact ⟨_, _, rfl, rfl, rfl, hR0⟩
set_option maxRecDepth 20000 in
set_option maxHeartbeats 2000000 in
theorem sim_spur (E_x1 : Int32) (E_r0 : (Nat → Int32)) (M_x1 : Int32) (M_r0 : (Nat → Int32)) (L_x6 : Int32) (M_x2 : Int32) (L_x7 : Int32) (M_x33 : Int32) (S_x5 : Int32) (S_x6 : Int32) (S_x7 : Int32) (S_x8 : Int32) (S_x9 : Int32) (S_r0 : (Nat → Int32)) (S_r1 : (Nat → Int32)) (S_r2 : (Nat → Int32)) (S_r3 : (Nat → Int32)) (S_r4 : (Nat → Int32)) (M_x12 : Int32) (M_r11 : (Nat → Int32)) (M_r15 : (Nat → Int32)) (M_x18 : Int32) (M_r9 : (Nat → Int32)) (M_r10 : (Nat → Int32)) (H0_x1 : Int32) (H0_x2 : Int32) (H0_r0 : (Nat → Int32)) (H1_x1 : Int32) (H1_x2 : Int32) (H1_r0 : (Nat → Int32)) (H2_x1 : Int32) (H2_x2 : Int32) (H2_r0 : (Nat → Int32)) (H3_x1 : Int32) (H3_x2 : Int32) (H3_r0 : (Nat → Int32)) (M_r30 : (Nat → Int32)) (M_r31 : (Nat → Int32)) (M_r32 : (Nat → Int32)) (P_r0 : (Nat → Int32)) (P_r1 : (Nat → Int32)) (P_r2 : (Nat → Int32)) (P_r3 : (Nat → Int32)) (P_r4 : (Nat → Int32)) (P_x5 : Int32) (P_x6 : Int32) (P_x7 : Int32) (P_x8 : Int32) (P_x9 : Int32) (T_r0 : (Nat → Int32)) (T_x1 : Int32) (T_x2 : Int32) (T_x3 : Int32) (T_x4 : Int32) (T_x5 : Int32) (T_x6 : Int32) (M_g24 : Int64) (M_g25 : Int64) (M_g26 : Int64) (M_r21 : (Nat → Int32)) (M_r22 : (Nat → Int32)) (M_x19 : Int32) (M_x20 : Int32) (M_x23 : Int32) (hR : Rel E_x1 E_r0 M_x1 M_r0 L_x6 M_x2 L_x7 M_x33 S_x5 S_x6 S_x7 S_x8 S_x9 S_r0 S_r1 S_r2 S_r3 S_r4 M_x12 M_r11 M_r15 M_x18 M_r9 M_r10 H0_x1 H0_x2 H0_r0 H1_x1 H1_x2 H1_r0 H2_x1 H2_x2 H2_r0 H3_x1 H3_x2 H3_r0 M_r30 M_r31 M_r32) (a1 : Int32) : ∃ (t1 : (Int32 × (Nat → Int32) × (Nat → Int32) × (Nat → Int32) × (Nat → Int32) × (Nat → Int32) × Int32 × Int32 × Int32 × Int32 × Int32 × (Nat → Int32) × Int32 × Int32 × Int32 × Int32 × Int32 × Int32)) (t2 : (Int32 × Int64 × Int64 × Int64 × (Nat → Int32) × (Nat → Int32) × (Nat → Int32) × Int32 × Int32 × Int32)), fX5_spur P_r0 P_r1 P_r2 P_r3 P_r4 P_x5 P_x6 P_x7 P_x8 P_x9 S_r0 S_r1 S_r2 S_r3 S_r4 S_x5 S_x6 S_x7 S_x8 S_x9 T_r0 T_x1 T_x2 T_x3 T_x4 T_x5 T_x6 a1 = some t1 ∧ fX6_spur M_g24 M_g25 M_g26 M_r11 M_r15 M_r21 M_r22 M_x12 M_x18 M_x19 M_x20 M_x23 a1 = some t2 ∧ t1.1 = t2.1 ∧ Rel E_x1 E_r0 M_x1 M_r0 L_x6 M_x2 L_x7 M_x33 S_x5 S_x6 S_x7 S_x8 S_x9 S_r0 S_r1 S_r2 S_r3 S_r4 M_x12 t2.2.2.2.2.1 M_r15 M_x18 M_r9 M_r10 H0_x1 H0_x2 H0_r0 H1_x1 H1_x2 H1_r0 H2_x1 H2_x2 H2_r0 H3_x1 H3_x2 H3_r0 M_r30 M_r31 M_r32 := by
  have hR0 := hR
  obtain ⟨z1, z2, z3, ⟨⟨n, hn, rfl, rfl, hs⟩, r0, r1, r2, r3, m1, m2, m3, m4, m5, m6, m7, m8⟩, rfl, z4⟩ := hR
  have hr : VR S_x6 S_x7 S_x8 := ⟨m1, m2, m3, m4, m5, m6⟩
  unfold fX5_spur fX6_spur
  rw [isSort6]
  rcases isSort_c hn a1 with ⟨s, hj, rfl, e1⟩ | e1
  · have hS' := SS_cp hn hs P_r0 P_r1 P_r2 P_r3 P_r4
    have hh := (hs s hj).2.2.2.2.2
    have hh' := hh
    unfold ROne at hh'
    obtain ⟨N, hN, hN2⟩ : ∃ N : Nat, S_r0 s = nI N ∧ N ≤ 50 := ⟨(S_r0 s).toInt.toNat, eq32 (by rw [nI_toInt (by omega)]; omega), by omega⟩
    have hcN : cp8 S_r0 P_r0 s = nI N := by rw [cp8_at (by omega), hN]
    obtain ⟨t', k1, k2, k3⟩ := spur6 hn hj hS' hr r0 r1 r2 (nI (gmask (worthB S_r1 S_r2) n)) (M_r11 (5 * s + 4)) hcN hN2 M_g24 M_g25 M_g26 M_r21 M_r22 M_x19 M_x20 M_x23
    have e11 : upd t'.2.2.2.2.1 (5 * s + 4) (M_r11 (5 * s + 4)) = M_r11 := by
      funext j
      rw [upd_at]
      by_cases c : j = 5 * s + 4
      · rw [if_pos c, c]
      · rw [if_neg c, k3 j c]
    have e0 : M_r11 (5 * s) = nI N := by rw [(hs s hj).1, hN]
    simp only [e1, bd_s, one0, ite_false, worth5 hn hs, worth6 hn hs, i4' (show s < 8 by omega), i0' (show s < 8 by omega), e0, k1, i54 s (by omega), ckI_nI (show 5 * s + 4 < 40 by omega) (by omega), nI_clamp (show 5 * s + 4 < 2 ^ 31 by omega), e11]
    by_cases c : nI (gmask (worthB S_r1 S_r2) n) = 0
    · rw [if_pos c]
      refine ⟨_, _, rfl, rfl, ?_, hR0⟩
      dsimp only
      rcases k2 with ⟨k2, -⟩ | ⟨j, -, -, -, k2, -⟩
      · exact k2.symm
      · exact absurd c k2.1
    · have hone := (hS' s hj).2.2.2.2.2
      have hS0 := SS_upd4 (v := (0 : Int32)) hS' hj (by unfold ROne at hone ⊢; have : (0 : Int32).toInt = 0 := rfl; omega)
      have hB0 := SB_of hn hS0 hr
      obtain ⟨t, L, g1, g2, g3⟩ := spur5 hB0 hj (nI (gmask (worthB S_r1 S_r2) n)) T_r0 T_x1 T_x2 T_x3 T_x4 T_x5 T_x6
      have gm0 : ¬ gmask (worthB S_r1 S_r2) n = 0 := by intro q; rw [q] at c; exact c rfl
      have key := Min_Lst (M := fun v => ¬ nI (gmask (worthB S_r1 S_r2) n) = 0 ∧ GoOn (sQ n (cp8 S_r0 P_r0) (cp8 S_r1 P_r1) (cp8 S_r2 P_r2) (cp8 S_r3 P_r3) (cp8 S_r4 P_r4) S_x6 S_x7 S_x8 s (nI v)) 0 (nI (gmask (worthB S_r1 S_r2) n)) 0 100) (hi := N + 1) g3 (by omega) (by
        intro v hv
        have ev := nI_toInt (n := v) (by omega)
        have hm : (cp8 S_r0 P_r0 s).toInt = (N : Int) := by rw [hcN, nI_toInt (by omega)]
        have hSv := SS_upd4 (v := nI v) hS' hj (by unfold ROne at hone ⊢; omega)
        have hBv := SB_of hn hSv hr
        constructor
        · rintro ⟨p, h2, h3⟩
          refine ⟨c, p, by omega, h2, ?_⟩
          refine (spur_iff hB0 hBv hj _ gm0).mpr ?_
          rw [ev]; exact h3
        · rintro ⟨-, p, h1, h2, h3⟩
          have h4 := (spur_iff hB0 hBv hj _ gm0).mp h3
          rw [ev] at h4
          exact ⟨p, h2, h4⟩)
      have hx := Lst_eq key k2
      simp only [if_neg c, copy_eq, bd_s, ckI_nI (show s < 8 by omega) (show 8 < 2 ^ 31 by omega), nI_clamp (show s < 2 ^ 31 by omega), g1, hN]
      have l1 := g3.1
      by_cases d : t.1 ≤ nI N
      · rw [if_pos d]
        refine ⟨_, _, rfl, rfl, ?_, hR0⟩
        dsimp only
        rw [g2, fa_le, nI_toInt (by omega), nI_toInt (by omega)] at d
        rw [g2, ← hx, if_pos (by omega)]
      · rw [if_neg d]
        refine ⟨_, _, rfl, rfl, ?_, hR0⟩
        dsimp only
        rw [g2, fa_le, nI_toInt (by omega), nI_toInt (by omega)] at d
        rw [← hx, if_neg (by omega)]
  · simp only [e1, bd_s, ite_true]; exact ⟨_, _, rfl, rfl, rfl, hR0⟩
