set_option maxRecDepth 20000 in
set_option maxHeartbeats 2000000 in
theorem sim_read (E_x1 : Int32) (E_r0 : (Nat → Int32)) (M_x1 : Int32) (M_r0 : (Nat → Int32)) (L_x6 : Int32) (M_x2 : Int32) (L_x7 : Int32) (M_x33 : Int32) (S_x5 : Int32) (S_x6 : Int32) (S_x7 : Int32) (S_x8 : Int32) (S_x9 : Int32) (S_r0 : (Nat → Int32)) (S_r1 : (Nat → Int32)) (S_r2 : (Nat → Int32)) (S_r3 : (Nat → Int32)) (S_r4 : (Nat → Int32)) (M_x12 : Int32) (M_r11 : (Nat → Int32)) (M_r15 : (Nat → Int32)) (M_x18 : Int32) (M_r9 : (Nat → Int32)) (M_r10 : (Nat → Int32)) (H0_x1 : Int32) (H0_x2 : Int32) (H0_r0 : (Nat → Int32)) (H1_x1 : Int32) (H1_x2 : Int32) (H1_r0 : (Nat → Int32)) (H2_x1 : Int32) (H2_x2 : Int32) (H2_r0 : (Nat → Int32)) (H3_x1 : Int32) (H3_x2 : Int32) (H3_r0 : (Nat → Int32)) (M_r30 : (Nat → Int32)) (M_r31 : (Nat → Int32)) (M_r32 : (Nat → Int32)) (hR : Rel E_x1 E_r0 M_x1 M_r0 L_x6 M_x2 L_x7 M_x33 S_x5 S_x6 S_x7 S_x8 S_x9 S_r0 S_r1 S_r2 S_r3 S_r4 M_x12 M_r11 M_r15 M_x18 M_r9 M_r10 H0_x1 H0_x2 H0_r0 H1_x1 H1_x2 H1_r0 H2_x1 H2_x2 H2_r0 H3_x1 H3_x2 H3_r0 M_r30 M_r31 M_r32) (a1 : Int32) (a2 : Int32) (a3 : Int32) (a4 : Int32) : ∃ (t1 : (Int32 × Int32 × (Nat → Int32) × (Nat → Int32) × (Nat → Int32) × (Nat → Int32) × (Nat → Int32) × Int32)) (t2 : (Int32 × (Nat → Int32) × Int32 × Int32)), fX5_read H0_r0 H0_x1 H0_x2 H1_r0 H1_x1 H1_x2 H2_r0 H2_x1 H2_x2 H3_r0 H3_x1 H3_x2 L_x7 S_r0 S_r1 S_r2 S_r3 S_r4 S_x5 a1 a2 a3 a4 = some t1 ∧ fX6_read M_r11 M_r30 M_r31 M_r32 M_x12 M_x33 a1 a2 a3 a4 = some t2 ∧ t1.1 = t2.1 ∧ Rel E_x1 E_r0 M_x1 M_r0 L_x6 M_x2 t1.2.1 t2.2.2.2 t1.2.2.2.2.2.2.2 S_x6 S_x7 S_x8 S_x9 t1.2.2.1 t1.2.2.2.1 t1.2.2.2.2.1 t1.2.2.2.2.2.1 t1.2.2.2.2.2.2.1 t2.2.2.1 t2.2.1 M_r15 M_x18 M_r9 M_r10 H0_x1 H0_x2 H0_r0 H1_x1 H1_x2 H1_r0 H2_x1 H2_x2 H2_r0 H3_x1 H3_x2 H3_r0 M_r30 M_r31 M_r32 := by
  have hR0 := hR
  obtain ⟨hT, hf, hrf, ⟨⟨n, hn, rfl, rfl, hs⟩, hr⟩, hlo, hcl, hs0, hs1, hs2, hs3⟩ := hR
  simp only [fX5_read, fX6_read, in_0_3, in_0_2, in_0_8]
  rcases isW_c a1 0 3 with ⟨u1, u2, e1⟩ | ⟨-, e1⟩
  · rcases isW_c a2 0 2 with ⟨-, -, e2⟩ | ⟨-, e2⟩
    · rcases isW_c a4 0 8 with ⟨u3, u4, e3⟩ | ⟨-, e3⟩
      · obtain ⟨k, hk, rfl⟩ := rngN (n := 3) u1 u2 (by omega)
        obtain ⟨q, hq, rfl⟩ := rngN (n := 8) u3 u4 (by omega)
        simp only [e1, e2, e3, bd_s, one0, ite_false]
        rcases (show k = 0 ∨ k = 1 ∨ k = 2 ∨ k = 3 by omega) with rfl | rfl | rfl | rfl
        · rw [if_pos (show nI 0 = 0 by decide)]
          obtain ⟨t1, t2, h1, h2, h3, h4, n', h5, h6, h7, h8⟩ := read_c (k := 0) (n := q) (l2 := a2) (f := a3) (by omega) hs0 hq hn hs hrf
          exact ⟨t1, t2, h1, h2, h3, hT, hf, h4, ⟨⟨n', h5, h6, h7, h8⟩, hr⟩, hlo, hcl, hs0, hs1, hs2, hs3⟩
        · rw [if_neg (show ¬ nI 1 = 0 by decide), if_pos (show nI 1 = 1 by decide)]
          obtain ⟨t1, t2, h1, h2, h3, h4, n', h5, h6, h7, h8⟩ := read_c (k := 1) (n := q) (l2 := a2) (f := a3) (by omega) hs1 hq hn hs hrf
          exact ⟨t1, t2, h1, h2, h3, hT, hf, h4, ⟨⟨n', h5, h6, h7, h8⟩, hr⟩, hlo, hcl, hs0, hs1, hs2, hs3⟩
        · rw [if_neg (show ¬ nI 2 = 0 by decide), if_neg (show ¬ nI 2 = 1 by decide), if_pos (show nI 2 = 2 by decide)]
          obtain ⟨t1, t2, h1, h2, h3, h4, n', h5, h6, h7, h8⟩ := read_c (k := 2) (n := q) (l2 := a2) (f := a3) (by omega) hs2 hq hn hs hrf
          exact ⟨t1, t2, h1, h2, h3, hT, hf, h4, ⟨⟨n', h5, h6, h7, h8⟩, hr⟩, hlo, hcl, hs0, hs1, hs2, hs3⟩
        · rw [if_neg (show ¬ nI 3 = 0 by decide), if_neg (show ¬ nI 3 = 1 by decide), if_neg (show ¬ nI 3 = 2 by decide), if_pos (show nI 3 = 3 by decide)]
          obtain ⟨t1, t2, h1, h2, h3, h4, n', h5, h6, h7, h8⟩ := read_c (k := 3) (n := q) (l2 := a2) (f := a3) (by omega) hs3 hq hn hs hrf
          exact ⟨t1, t2, h1, h2, h3, hT, hf, h4, ⟨⟨n', h5, h6, h7, h8⟩, hr⟩, hlo, hcl, hs0, hs1, hs2, hs3⟩
      · simp only [e1, e2, e3, bd_s, one0, ite_false, ite_true]; exact ⟨_, _, rfl, rfl, rfl, hR0⟩
    · simp only [e1, e2, bd_s, one0, ite_false, ite_true]; exact ⟨_, _, rfl, rfl, rfl, hR0⟩
  · simp only [e1, bd_s, ite_true]; exact ⟨_, _, rfl, rfl, rfl, hR0⟩
