set_option maxRecDepth 20000 in
set_option maxHeartbeats 2000000 in
theorem sim_text (E_x1 : Int32) (E_r0 : (Nat → Int32)) (M_x1 : Int32) (M_r0 : (Nat → Int32)) (L_x6 : Int32) (M_x2 : Int32) (L_x7 : Int32) (M_x33 : Int32) (S_x5 : Int32) (S_x6 : Int32) (S_x7 : Int32) (S_x8 : Int32) (S_x9 : Int32) (S_r0 : (Nat → Int32)) (S_r1 : (Nat → Int32)) (S_r2 : (Nat → Int32)) (S_r3 : (Nat → Int32)) (S_r4 : (Nat → Int32)) (M_x12 : Int32) (M_r11 : (Nat → Int32)) (M_r15 : (Nat → Int32)) (M_x18 : Int32) (M_r9 : (Nat → Int32)) (M_r10 : (Nat → Int32)) (H0_x1 : Int32) (H0_x2 : Int32) (H0_r0 : (Nat → Int32)) (H1_x1 : Int32) (H1_x2 : Int32) (H1_r0 : (Nat → Int32)) (H2_x1 : Int32) (H2_x2 : Int32) (H2_r0 : (Nat → Int32)) (H3_x1 : Int32) (H3_x2 : Int32) (H3_r0 : (Nat → Int32)) (M_r30 : (Nat → Int32)) (M_r31 : (Nat → Int32)) (M_r32 : (Nat → Int32)) (D_x8 : Int32) (P_r0 : (Nat → Int32)) (P_r1 : (Nat → Int32)) (P_r2 : (Nat → Int32)) (P_r3 : (Nat → Int32)) (P_r4 : (Nat → Int32)) (M_r13 : (Nat → Int32)) (M_r16 : (Nat → Int32)) (M_x4 : Int32) (M_x6 : Int32) (M_x7 : Int32) (M_x8 : Int32) (hR : Rel E_x1 E_r0 M_x1 M_r0 L_x6 M_x2 L_x7 M_x33 S_x5 S_x6 S_x7 S_x8 S_x9 S_r0 S_r1 S_r2 S_r3 S_r4 M_x12 M_r11 M_r15 M_x18 M_r9 M_r10 H0_x1 H0_x2 H0_r0 H1_x1 H1_x2 H1_r0 H2_x1 H2_x2 H2_r0 H3_x1 H3_x2 H3_r0 M_r30 M_r31 M_r32)  : ∃ (t1 : (Int32 × Int32 × Int32 × Int32 × Int32 × Int32 × Int32 × Int32 × Int32 × Int32 × Int32 × (Nat → Int32) × (Nat → Int32) × (Nat → Int32) × (Nat → Int32) × (Nat → Int32) × Int32 × Int32 × Int32 × Int32 × Int32)) (t2 : (Int32 × (Nat → Int32) × (Nat → Int32) × (Nat → Int32) × (Nat → Int32) × Int32 × Int32 × Int32 × Int32 × Int32 × Int32 × Int32 × Int32 × Int32 × Int32 × Int32)), fX5_texta D_x8 E_r0 E_x1 P_r0 P_r1 P_r2 P_r3 P_r4 = some t1 ∧ fX6_text M_r0 M_r9 M_r10 M_r11 M_r13 M_r15 M_r16 M_x1 M_x4 M_x6 M_x7 M_x8 M_x12 = some t2 ∧ t1.1 = t2.1 ∧ ((t1.2.2.2.2.2.2.2.2.2.2.1 = (0 : Int32) → Rel t1.2.2.2.2.2.2.2.2.2.1 E_r0 t2.2.2.2.2.2.1 M_r0 t1.2.2.2.2.2.2.2.2.2.2.1 t2.2.2.2.2.2.2.1 L_x7 M_x33 t1.2.2.2.2.2.2.2.2.2.2.2.2.2.2.2.2.1 t1.2.2.2.2.2.2.2.2.2.2.2.2.2.2.2.2.2.1 t1.2.2.2.2.2.2.2.2.2.2.2.2.2.2.2.2.2.2.1 t1.2.2.2.2.2.2.2.2.2.2.2.2.2.2.2.2.2.2.2.1 t1.2.2.2.2.2.2.2.2.2.2.2.2.2.2.2.2.2.2.2.2 t1.2.2.2.2.2.2.2.2.2.2.2.1 t1.2.2.2.2.2.2.2.2.2.2.2.2.1 t1.2.2.2.2.2.2.2.2.2.2.2.2.2.1 t1.2.2.2.2.2.2.2.2.2.2.2.2.2.2.1 t1.2.2.2.2.2.2.2.2.2.2.2.2.2.2.2.1 t2.2.2.2.2.2.2.2.2.2.2.2.2.2.1 t2.2.1 t2.2.2.2.1 M_x18 M_r9 M_r10 H0_x1 H0_x2 H0_r0 H1_x1 H1_x2 H1_r0 H2_x1 H2_x2 H2_r0 H3_x1 H3_x2 H3_r0 M_r30 M_r31 M_r32) ∧ (¬ t1.2.2.2.2.2.2.2.2.2.2.1 = (0 : Int32) → Rel t1.2.2.2.2.2.2.2.2.2.1 E_r0 t2.2.2.2.2.2.1 M_r0 t1.2.2.2.2.2.2.2.2.2.2.1 t2.2.2.2.2.2.2.1 L_x7 M_x33 S_x5 S_x6 S_x7 S_x8 S_x9 S_r0 S_r1 S_r2 S_r3 S_r4 t2.2.2.2.2.2.2.2.2.2.2.2.2.2.1 t2.2.1 t2.2.2.2.1 M_x18 M_r9 M_r10 H0_x1 H0_x2 H0_r0 H1_x1 H1_x2 H1_r0 H2_x1 H2_x2 H2_r0 H3_x1 H3_x2 H3_r0 M_r30 M_r31 M_r32)) := by
  obtain ⟨⟨n, hn, rfl, rfl, ht⟩, hf, hrf, hst, hlo, hcl, hs0, hs1, hs2, hs3⟩ := hR
  have hT := tape_g hn ht
  obtain ⟨c, m, e1, e2, e3⟩ := tok_two hT hcl (Nat.zero_le n) 0 D_x8 M_x4 M_x6 M_x7 M_x8
  obtain ⟨T, T', l1, l2, c', m', L, w, w', a0, a1, a2, a3, a4, a5, a6, a7, a8, a9, e13, e16, e14, rfl, rfl, hK, hS⟩ := text_loop hT hcl e3 (sp_start P_r0 P_r1 P_r2 P_r3 P_r4 M_r13 M_r16)
  have A : fX0_readInto D_x8 E_r0 (nI n) P_r0 P_r1 P_r2 P_r3 P_r4 (0 : Int32) (50 : Int32) (6 : Int32) (1 : Int32) (5 : Int32) = some (c'.1, c'.2.1, L, c'.2.2.1, w, c'.2.2.2.1, c'.2.2.2.2.1, c'.2.2.2.2.2, a0, a1, a2, a3, a4, a5, a6, a7, a8, a9) := by
    unfold fX0_readInto
    rw [show (0 : Int32) = nI 0 from rfl] at e1
    have e1' : fX0_readToken (0 : Int32) (0 : Int32) (0 : Int32) D_x8 E_r0 (nI n) = some c := e1
    rw [e1', bd_s, l1, bd_s]
  have e2' : fX6_next M_r0 M_r9 M_r10 (nI n) (0 : Int32) M_x4 (0 : Int32) M_x6 M_x7 M_x8 = some m := e2
  have hT0 : RTape 0 E_r0 0 M_r0 := ⟨0, by omega, rfl, rfl, fun j hj => by omega⟩
  unfold fX5_texta fX6_text
  rw [show fX2_clear = some ((0 : Int32), (50 : Int32), (6 : Int32), (1 : Int32), (5 : Int32)) from rfl, bd_s]
  dsimp only
  rw [A, bd_s, e2', bd_s, l2, bd_s]
  dsimp only
  by_cases z : m'.1 = 0
  · have zc := (TkR_0 hK).mpr z
    rw [if_pos zc, if_pos (show m'.1 ≤ 0 by rw [z]; decide), copyS, bd_s, copyR, bd_s]
    refine ⟨_, _, rfl, rfl, rfl, fun _ => ⟨hT0, zc.trans z.symm, hrf, stock_copy (hS z), hlo, hcl, hs0, hs1, hs2, hs3⟩, fun q => absurd zc q⟩
  · have zc : ¬ c'.1 = 0 := fun q => z ((TkR_0 hK).mp q)
    rcases hK with ⟨_, _, _, _, _, k4, _⟩ | ⟨k1, k2, k3⟩
    · exact absurd k4 zc
    · rw [if_neg zc, if_neg (pos_nle (k2 ▸ k1))]
      refine ⟨_, _, rfl, rfl, by rw [k3], fun q => absurd q zc, fun _ => ⟨hT0, k2, hrf, hst, hlo, hcl, hs0, hs1, hs2, hs3⟩⟩
