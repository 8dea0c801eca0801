set_option maxRecDepth 20000 in
set_option maxHeartbeats 2000000 in
theorem sim_feed (E_x1 : Int32) (E_r0 : (Nat → Int32)) (M_x1 : Int32) (M_r0 : (Nat → Int32)) (L_x6 : Int32) (M_x2 : Int32) (L_x7 : Int32) (M_x33 : Int32) (S_x5 : Int32) (S_x6 : Int32) (S_x7 : Int32) (S_x8 : Int32) (S_x9 : Int32) (S_r0 : (Nat → Int32)) (S_r1 : (Nat → Int32)) (S_r2 : (Nat → Int32)) (S_r3 : (Nat → Int32)) (S_r4 : (Nat → Int32)) (M_x12 : Int32) (M_r11 : (Nat → Int32)) (M_r15 : (Nat → Int32)) (M_x18 : Int32) (M_r9 : (Nat → Int32)) (M_r10 : (Nat → Int32)) (H0_x1 : Int32) (H0_x2 : Int32) (H0_r0 : (Nat → Int32)) (H1_x1 : Int32) (H1_x2 : Int32) (H1_r0 : (Nat → Int32)) (H2_x1 : Int32) (H2_x2 : Int32) (H2_r0 : (Nat → Int32)) (H3_x1 : Int32) (H3_x2 : Int32) (H3_r0 : (Nat → Int32)) (M_r30 : (Nat → Int32)) (M_r31 : (Nat → Int32)) (M_r32 : (Nat → Int32)) (hR : Rel E_x1 E_r0 M_x1 M_r0 L_x6 M_x2 L_x7 M_x33 S_x5 S_x6 S_x7 S_x8 S_x9 S_r0 S_r1 S_r2 S_r3 S_r4 M_x12 M_r11 M_r15 M_x18 M_r9 M_r10 H0_x1 H0_x2 H0_r0 H1_x1 H1_x2 H1_r0 H2_x1 H2_x2 H2_r0 H3_x1 H3_x2 H3_r0 M_r30 M_r31 M_r32) (a1 : Int64) : ∃ (t1 : (Int32 × (Nat → Int32) × Int32)) (t2 : (Int32 × (Nat → Int32) × Int32)), fX5_feed E_r0 E_x1 a1 = some t1 ∧ fX6_feed M_r0 M_x1 a1 = some t2 ∧ t1.1 = t2.1 ∧ Rel t1.2.2 t1.2.1 t2.2.2 t2.2.1 L_x6 M_x2 L_x7 M_x33 S_x5 S_x6 S_x7 S_x8 S_x9 S_r0 S_r1 S_r2 S_r3 S_r4 M_x12 M_r11 M_r15 M_x18 M_r9 M_r10 H0_x1 H0_x2 H0_r0 H1_x1 H1_x2 H1_r0 H2_x1 H2_x2 H2_r0 H3_x1 H3_x2 H3_r0 M_r30 M_r31 M_r32 := by
  obtain ⟨⟨n, hn, rfl, rfl, hb⟩, hrest⟩ := hR
  unfold fX5_feed fX6_feed
  have e8 : nI n + (8 : Int32) = nI (n + 8) := nI_add n 8
  rw [e8]
  by_cases c : n + 8 ≤ 240
  · have c1 : nI (n + 8) ≤ (240 : Int32) := (nI_leI (b := 240) (by omega) (by omega)).mpr c
    obtain ⟨t, t', h1, h2, h3, h4, h5⟩ := feed_two (l := a1) c hb
    rw [if_pos c1, if_pos c1, h1, h2]
    exact ⟨_, _, rfl, rfl, by show t.2 = t'.2; rw [h3, h4], ⟨n + 8, c, h3, h4, h5⟩, hrest⟩
  · have c1 : ¬ nI (n + 8) ≤ (240 : Int32) := fun q => c ((nI_leI (b := 240) (by omega) (by omega)).mp q)
    rw [if_neg c1, if_neg c1]
    exact ⟨_, _, rfl, rfl, rfl, ⟨n, hn, rfl, rfl, hb⟩, hrest⟩
set_option maxRecDepth 20000 in
set_option maxHeartbeats 2000000 in
theorem sim_all (E_x1 : Int32) (E_r0 : (Nat → Int32)) (M_x1 : Int32) (M_r0 : (Nat → Int32)) (L_x6 : Int32) (M_x2 : Int32) (L_x7 : Int32) (M_x33 : Int32) (S_x5 : Int32) (S_x6 : Int32) (S_x7 : Int32) (S_x8 : Int32) (S_x9 : Int32) (S_r0 : (Nat → Int32)) (S_r1 : (Nat → Int32)) (S_r2 : (Nat → Int32)) (S_r3 : (Nat → Int32)) (S_r4 : (Nat → Int32)) (M_x12 : Int32) (M_r11 : (Nat → Int32)) (M_r15 : (Nat → Int32)) (M_x18 : Int32) (M_r9 : (Nat → Int32)) (M_r10 : (Nat → Int32)) (H0_x1 : Int32) (H0_x2 : Int32) (H0_r0 : (Nat → Int32)) (H1_x1 : Int32) (H1_x2 : Int32) (H1_r0 : (Nat → Int32)) (H2_x1 : Int32) (H2_x2 : Int32) (H2_r0 : (Nat → Int32)) (H3_x1 : Int32) (H3_x2 : Int32) (H3_r0 : (Nat → Int32)) (M_r30 : (Nat → Int32)) (M_r31 : (Nat → Int32)) (M_r32 : (Nat → Int32)) (hR : Rel E_x1 E_r0 M_x1 M_r0 L_x6 M_x2 L_x7 M_x33 S_x5 S_x6 S_x7 S_x8 S_x9 S_r0 S_r1 S_r2 S_r3 S_r4 M_x12 M_r11 M_r15 M_x18 M_r9 M_r10 H0_x1 H0_x2 H0_r0 H1_x1 H1_x2 H1_r0 H2_x1 H2_x2 H2_r0 H3_x1 H3_x2 H3_r0 M_r30 M_r31 M_r32)  : ∃ (t1 : Int32) (t2 : Int32), fX5_all S_r0 S_r1 S_r2 S_x5 = some t1 ∧ fX6_all M_r11 M_x12 = some t2 ∧ t1 = t2 ∧ Rel E_x1 E_r0 M_x1 M_r0 L_x6 M_x2 L_x7 M_x33 S_x5 S_x6 S_x7 S_x8 S_x9 S_r0 S_r1 S_r2 S_r3 S_r4 M_x12 M_r11 M_r15 M_x18 M_r9 M_r10 H0_x1 H0_x2 H0_r0 H1_x1 H1_x2 H1_r0 H2_x1 H2_x2 H2_r0 H3_x1 H3_x2 H3_r0 M_r30 M_r31 M_r32 := by
  have hR0 := hR
  obtain ⟨-, -, -, ⟨⟨n, hn, rfl, rfl, hs⟩, -⟩, -⟩ := hR
  unfold fX5_all fX6_all
  obtain ⟨t, t', h1, h2, h3⟩ := loop_two (fX5_all_b4 (nI n) S_r0 S_r1 S_r2) (fX6_all_b4 (nI n) M_r11) (fun k v v' => v = v' ∧ v.2 = nI k) (fun t t' => t = t') n (v := ((0 : Int32), (0 : Int32))) (v' := ((0 : Int32), (0 : Int32))) (by omega) ⟨rfl, rfl⟩ (by
    rintro k ⟨x, i⟩ v' hk ⟨rfl, rfl⟩
    obtain ⟨g0, g1, g2, -⟩ := hs k hk
    have hk8 : k < 8 := by omega
    refine ⟨(x + ((800 : Int32) * S_r0 k) * (if (0 : Int32) < S_r2 k - S_r1 k then S_r2 k - S_r1 k else 0), nI (k + 1)), _, ?_, ?_, rfl, rfl⟩
    · unfold fX5_all_b4
      dsimp only
      rw [if_neg (nle hk (by omega)), ckI_nI hk8 (by omega), sur_eq hk8, bd_s, nI_clamp (by omega), nI_1]
    · unfold fX6_all_b4
      dsimp only
      rw [if_neg (nle hk (by omega)), i2' hk8, bd_s, i1' hk8, bd_s, i0' hk8, bd_s, g0, g1, g2]
      by_cases q : S_r2 k - S_r1 k ≤ 0
      · rw [if_pos q, if_neg (by rw [fa_lt]; rw [fa_le] at q; omega), bd_s, nI_1, Int32.mul_zero]
      · rw [if_neg q, if_pos (by rw [fa_lt]; rw [fa_le] at q; omega), bd_s, nI_1]) (by
    rintro ⟨x, i⟩ v' ⟨rfl, rfl⟩
    refine ⟨x, x, ?_, ?_, rfl⟩
    · unfold fX5_all_b4; rw [if_pos (nI_le (Nat.le_refl n) (by omega))]
    · unfold fX6_all_b4; rw [if_pos (nI_le (Nat.le_refl n) (by omega))])
  rw [h1, h2]
  exact ⟨t, t', rfl, rfl, h3, hR0⟩
set_option maxRecDepth 20000 in
set_option maxHeartbeats 2000000 in
theorem sim_sheet (E_x1 : Int32) (E_r0 : (Nat → Int32)) (M_x1 : Int32) (M_r0 : (Nat → Int32)) (L_x6 : Int32) (M_x2 : Int32) (L_x7 : Int32) (M_x33 : Int32) (S_x5 : Int32) (S_x6 : Int32) (S_x7 : Int32) (S_x8 : Int32) (S_x9 : Int32) (S_r0 : (Nat → Int32)) (S_r1 : (Nat → Int32)) (S_r2 : (Nat → Int32)) (S_r3 : (Nat → Int32)) (S_r4 : (Nat → Int32)) (M_x12 : Int32) (M_r11 : (Nat → Int32)) (M_r15 : (Nat → Int32)) (M_x18 : Int32) (M_r9 : (Nat → Int32)) (M_r10 : (Nat → Int32)) (H0_x1 : Int32) (H0_x2 : Int32) (H0_r0 : (Nat → Int32)) (H1_x1 : Int32) (H1_x2 : Int32) (H1_r0 : (Nat → Int32)) (H2_x1 : Int32) (H2_x2 : Int32) (H2_r0 : (Nat → Int32)) (H3_x1 : Int32) (H3_x2 : Int32) (H3_r0 : (Nat → Int32)) (M_r30 : (Nat → Int32)) (M_r31 : (Nat → Int32)) (M_r32 : (Nat → Int32)) (hR : Rel E_x1 E_r0 M_x1 M_r0 L_x6 M_x2 L_x7 M_x33 S_x5 S_x6 S_x7 S_x8 S_x9 S_r0 S_r1 S_r2 S_r3 S_r4 M_x12 M_r11 M_r15 M_x18 M_r9 M_r10 H0_x1 H0_x2 H0_r0 H1_x1 H1_x2 H1_r0 H2_x1 H2_x2 H2_r0 H3_x1 H3_x2 H3_r0 M_r30 M_r31 M_r32) (a1 : Int32) (a2 : Int32) (a3 : Int32) : ∃ (t1 : (Int32 × (Nat → Int32) × Int32 × Int32 × (Nat → Int32) × Int32 × Int32 × (Nat → Int32) × Int32 × Int32 × (Nat → Int32) × Int32 × Int32)) (t2 : (Int32 × (Nat → Int32) × (Nat → Int32) × (Nat → Int32))), fX5_sheet H0_r0 H0_x1 H0_x2 H1_r0 H1_x1 H1_x2 H2_r0 H2_x1 H2_x2 H3_r0 H3_x1 H3_x2 a1 a2 a3 = some t1 ∧ fX6_sheet M_r30 M_r31 M_r32 a1 a2 a3 = some t2 ∧ t1.1 = t2.1 ∧ Rel E_x1 E_r0 M_x1 M_r0 L_x6 M_x2 L_x7 M_x33 S_x5 S_x6 S_x7 S_x8 S_x9 S_r0 S_r1 S_r2 S_r3 S_r4 M_x12 M_r11 M_r15 M_x18 M_r9 M_r10 t1.2.2.1 t1.2.2.2.1 t1.2.1 t1.2.2.2.2.2.1 t1.2.2.2.2.2.2.1 t1.2.2.2.2.1 t1.2.2.2.2.2.2.2.2.1 t1.2.2.2.2.2.2.2.2.2.1 t1.2.2.2.2.2.2.2.1 t1.2.2.2.2.2.2.2.2.2.2.2.1 t1.2.2.2.2.2.2.2.2.2.2.2.2 t1.2.2.2.2.2.2.2.2.2.2.1 t2.2.1 t2.2.2.1 t2.2.2.2 := by
  obtain ⟨hT, hf, hq, hS, hl, hC, h0, h1, h2, h3⟩ := hR
  simp only [fX5_sheet, fX6_sheet, in_0_3, in_0_2]
  rcases isW_c a1 0 3 with ⟨p1, p2, e1⟩ | ⟨h, e1⟩
  · simp only [e1, bd_s, one0, ite_false]
    rcases isW_c a2 0 2 with ⟨p3, p4, e2⟩ | ⟨h, e2⟩
    · simp only [e2, bd_s, one0, ite_false]
      by_cases c1 : a3 ≤ 40
      · simp only [if_pos c1]
        by_cases c2 : 0 ≤ a3
        · simp only [if_pos c2]
          obtain ⟨n, hn, rfl⟩ := rngN (x := a3) (n := 40) c2 c1 (by omega)
          obtain ⟨ln, hln, rfl⟩ := rngN (x := a2) (n := 2) p3 p4 (by omega)
          obtain ⟨k, hk, rfl⟩ := rngN (x := a1) (n := 3) p1 p2 (by omega)
          have hk4 : k < 4 := by omega
          have hlane : nI ln = 0 ∨ nI ln = 1 ∨ nI ln = 2 := by rcases (by omega : ln = 0 ∨ ln = 1 ∨ ln = 2) with rfl | rfl | rfl <;> simp [nI] <;> decide
          obtain ⟨z, hz1, hz2, hz3⟩ := zero6 M_r32 hk4
          simp only [ckI_nI hk4 (by omega : (4 : Nat) < 2 ^ 31), nI_clamp (show k < 2 ^ 31 by omega), hz1, bd_s]
          have new : ∀ f : Nat → Int32, (∀ j, j < 40 → f j = 0) → RSheet k (nI n) (nI ln) f (upd M_r30 k (nI ln)) (upd M_r31 k (nI n)) z := fun f hf => ⟨Or.inr ⟨n, hn, rfl, by rw [upd_at, if_pos rfl], by rw [upd_at, if_pos rfl], hlane⟩, fun j hj => by rw [hz2 j hj, hf j hj]⟩
          have old : ∀ (k' : Nat) (size lane : Int32) (cells : Nat → Int32), k' ≠ k → k' < 4 → RSheet k' size lane cells M_r30 M_r31 M_r32 → RSheet k' size lane cells (upd M_r30 k (nI ln)) (upd M_r31 k (nI n)) z := fun k' size lane cells hne hk' h => RSheet_keep hne hk' hk4 h (by rw [upd_at, if_neg hne]) (by rw [upd_at, if_neg hne]) hz3
          rcases (by omega : k = 0 ∨ k = 1 ∨ k = 2 ∨ k = 3) with rfl | rfl | rfl | rfl
          · obtain ⟨f, e3, hf0⟩ := renew_eq H0_r0 (nI ln) (nI n)
            rw [if_pos (show nI 0 = (0 : Int32) by decide), e3]
            exact ⟨_, _, rfl, rfl, rfl, hT, hf, hq, hS, hl, hC, new f hf0, old 1 _ _ _ (by omega) (by omega) h1, old 2 _ _ _ (by omega) (by omega) h2, old 3 _ _ _ (by omega) (by omega) h3⟩
          · obtain ⟨f, e3, hf0⟩ := renew_eq H1_r0 (nI ln) (nI n)
            rw [if_neg (show ¬ nI 1 = (0 : Int32) by decide), if_pos (show nI 1 = (1 : Int32) by decide), e3]
            exact ⟨_, _, rfl, rfl, rfl, hT, hf, hq, hS, hl, hC, old 0 _ _ _ (by omega) (by omega) h0, new f hf0, old 2 _ _ _ (by omega) (by omega) h2, old 3 _ _ _ (by omega) (by omega) h3⟩
          · obtain ⟨f, e3, hf0⟩ := renew_eq H2_r0 (nI ln) (nI n)
            rw [if_neg (show ¬ nI 2 = (0 : Int32) by decide), if_neg (show ¬ nI 2 = (1 : Int32) by decide), if_pos (show nI 2 = (2 : Int32) by decide), e3]
            exact ⟨_, _, rfl, rfl, rfl, hT, hf, hq, hS, hl, hC, old 0 _ _ _ (by omega) (by omega) h0, old 1 _ _ _ (by omega) (by omega) h1, new f hf0, old 3 _ _ _ (by omega) (by omega) h3⟩
          · obtain ⟨f, e3, hf0⟩ := renew_eq H3_r0 (nI ln) (nI n)
            rw [if_neg (show ¬ nI 3 = (0 : Int32) by decide), if_neg (show ¬ nI 3 = (1 : Int32) by decide), if_neg (show ¬ nI 3 = (2 : Int32) by decide), if_pos (show nI 3 = (3 : Int32) by decide), e3]
            exact ⟨_, _, rfl, rfl, rfl, hT, hf, hq, hS, hl, hC, old 0 _ _ _ (by omega) (by omega) h0, old 1 _ _ _ (by omega) (by omega) h1, old 2 _ _ _ (by omega) (by omega) h2, new f hf0⟩
        · simp only [if_neg c2]
          exact ⟨_, _, rfl, rfl, rfl, hT, hf, hq, hS, hl, hC, h0, h1, h2, h3⟩
      · simp only [if_neg c1]
        exact ⟨_, _, rfl, rfl, rfl, hT, hf, hq, hS, hl, hC, h0, h1, h2, h3⟩
    · simp only [e2, bd_s, ite_true]
      exact ⟨_, _, rfl, rfl, rfl, hT, hf, hq, hS, hl, hC, h0, h1, h2, h3⟩
  · simp only [e1, bd_s, ite_true]
    exact ⟨_, _, rfl, rfl, rfl, hT, hf, hq, hS, hl, hC, h0, h1, h2, h3⟩
set_option maxRecDepth 20000 in
set_option maxHeartbeats 2000000 in
theorem sim_lay (E_x1 : Int32) (E_r0 : (Nat → Int32)) (M_x1 : Int32) (M_r0 : (Nat → Int32)) (L_x6 : Int32) (M_x2 : Int32) (L_x7 : Int32) (M_x33 : Int32) (S_x5 : Int32) (S_x6 : Int32) (S_x7 : Int32) (S_x8 : Int32) (S_x9 : Int32) (S_r0 : (Nat → Int32)) (S_r1 : (Nat → Int32)) (S_r2 : (Nat → Int32)) (S_r3 : (Nat → Int32)) (S_r4 : (Nat → Int32)) (M_x12 : Int32) (M_r11 : (Nat → Int32)) (M_r15 : (Nat → Int32)) (M_x18 : Int32) (M_r9 : (Nat → Int32)) (M_r10 : (Nat → Int32)) (H0_x1 : Int32) (H0_x2 : Int32) (H0_r0 : (Nat → Int32)) (H1_x1 : Int32) (H1_x2 : Int32) (H1_r0 : (Nat → Int32)) (H2_x1 : Int32) (H2_x2 : Int32) (H2_r0 : (Nat → Int32)) (H3_x1 : Int32) (H3_x2 : Int32) (H3_r0 : (Nat → Int32)) (M_r30 : (Nat → Int32)) (M_r31 : (Nat → Int32)) (M_r32 : (Nat → Int32)) (hR : Rel E_x1 E_r0 M_x1 M_r0 L_x6 M_x2 L_x7 M_x33 S_x5 S_x6 S_x7 S_x8 S_x9 S_r0 S_r1 S_r2 S_r3 S_r4 M_x12 M_r11 M_r15 M_x18 M_r9 M_r10 H0_x1 H0_x2 H0_r0 H1_x1 H1_x2 H1_r0 H2_x1 H2_x2 H2_r0 H3_x1 H3_x2 H3_r0 M_r30 M_r31 M_r32) (a1 : Int32) (a2 : Int32) (a3 : Int32) : ∃ (t1 : (Int32 × (Nat → Int32) × (Nat → Int32) × (Nat → Int32) × (Nat → Int32))) (t2 : (Int32 × (Nat → Int32))), fX5_lay H0_r0 H0_x1 H0_x2 H1_r0 H1_x1 H1_x2 H2_r0 H2_x1 H2_x2 H3_r0 H3_x1 H3_x2 a1 a2 a3 = some t1 ∧ fX6_lay M_r30 M_r31 M_r32 a1 a2 a3 = some t2 ∧ t1.1 = t2.1 ∧ Rel E_x1 E_r0 M_x1 M_r0 L_x6 M_x2 L_x7 M_x33 S_x5 S_x6 S_x7 S_x8 S_x9 S_r0 S_r1 S_r2 S_r3 S_r4 M_x12 M_r11 M_r15 M_x18 M_r9 M_r10 H0_x1 H0_x2 t1.2.1 H1_x1 H1_x2 t1.2.2.1 H2_x1 H2_x2 t1.2.2.2.1 H3_x1 H3_x2 t1.2.2.2.2 M_r30 M_r31 t2.2 := by
  obtain ⟨hT, hf, hq, hS, hl, hC, h0, h1, h2, h3⟩ := hR
  rcases isW_c a1 0 3 with ⟨p1, p2, e1⟩ | ⟨h, e1⟩
  · obtain ⟨k, hk, rfl⟩ := rngN (x := a1) (n := 3) p1 p2 (by omega)
    simp only [fX5_lay, e1, bd_s, one0, ite_false]
    rcases (by omega : k = 0 ∨ k = 1 ∨ k = 2 ∨ k = 3) with rfl | rfl | rfl | rfl
    · rw [if_pos (show nI 0 = (0 : Int32) by decide)]
      rcases lay_c (k := 0) (by omega) h0 a2 a3 with ⟨f, e2, e3, e4⟩ | ⟨j, v, hj, rfl, e2, e3, e4⟩
      · rw [e2, bd_s, if_neg e3, e4]
        exact ⟨_, _, rfl, rfl, rfl, hT, hf, hq, hS, hl, hC, h0, h1, h2, h3⟩
      · rw [e2, bd_s, if_pos rfl, e3, bd_s, ckI_nI hj (by omega), nI_clamp (by omega), e4]
        exact ⟨_, _, rfl, rfl, rfl, hT, hf, hq, hS, hl, hC, RSheet_lay hj h0, RSheet_lay2 (by omega) hj h1, RSheet_lay2 (by omega) hj h2, RSheet_lay2 (by omega) hj h3⟩
    · rw [if_neg (show ¬ nI 1 = (0 : Int32) by decide), if_pos (show nI 1 = (1 : Int32) by decide)]
      rcases lay_c (k := 1) (by omega) h1 a2 a3 with ⟨f, e2, e3, e4⟩ | ⟨j, v, hj, rfl, e2, e3, e4⟩
      · rw [e2, bd_s, if_neg e3, e4]
        exact ⟨_, _, rfl, rfl, rfl, hT, hf, hq, hS, hl, hC, h0, h1, h2, h3⟩
      · rw [e2, bd_s, if_pos rfl, e3, bd_s, ckI_nI hj (by omega), nI_clamp (by omega), e4]
        exact ⟨_, _, rfl, rfl, rfl, hT, hf, hq, hS, hl, hC, RSheet_lay2 (by omega) hj h0, RSheet_lay hj h1, RSheet_lay2 (by omega) hj h2, RSheet_lay2 (by omega) hj h3⟩
    · rw [if_neg (show ¬ nI 2 = (0 : Int32) by decide), if_neg (show ¬ nI 2 = (1 : Int32) by decide), if_pos (show nI 2 = (2 : Int32) by decide)]
      rcases lay_c (k := 2) (by omega) h2 a2 a3 with ⟨f, e2, e3, e4⟩ | ⟨j, v, hj, rfl, e2, e3, e4⟩
      · rw [e2, bd_s, if_neg e3, e4]
        exact ⟨_, _, rfl, rfl, rfl, hT, hf, hq, hS, hl, hC, h0, h1, h2, h3⟩
      · rw [e2, bd_s, if_pos rfl, e3, bd_s, ckI_nI hj (by omega), nI_clamp (by omega), e4]
        exact ⟨_, _, rfl, rfl, rfl, hT, hf, hq, hS, hl, hC, RSheet_lay2 (by omega) hj h0, RSheet_lay2 (by omega) hj h1, RSheet_lay hj h2, RSheet_lay2 (by omega) hj h3⟩
    · rw [if_neg (show ¬ nI 3 = (0 : Int32) by decide), if_neg (show ¬ nI 3 = (1 : Int32) by decide), if_neg (show ¬ nI 3 = (2 : Int32) by decide), if_pos (show nI 3 = (3 : Int32) by decide)]
      rcases lay_c (k := 3) (by omega) h3 a2 a3 with ⟨f, e2, e3, e4⟩ | ⟨j, v, hj, rfl, e2, e3, e4⟩
      · rw [e2, bd_s, if_neg e3, e4]
        exact ⟨_, _, rfl, rfl, rfl, hT, hf, hq, hS, hl, hC, h0, h1, h2, h3⟩
      · rw [e2, bd_s, if_pos rfl, e3, bd_s, ckI_nI hj (by omega), nI_clamp (by omega), e4]
        exact ⟨_, _, rfl, rfl, rfl, hT, hf, hq, hS, hl, hC, RSheet_lay2 (by omega) hj h0, RSheet_lay2 (by omega) hj h1, RSheet_lay2 (by omega) hj h2, RSheet_lay hj h3⟩
  · simp only [fX5_lay, fX6_lay, in_0_3, e1, bd_s, ite_true]
    exact ⟨_, _, rfl, rfl, rfl, hT, hf, hq, hS, hl, hC, h0, h1, h2, h3⟩
set_option maxRecDepth 20000 in
set_option maxHeartbeats 2000000 in
theorem sim_count (E_x1 : Int32) (E_r0 : (Nat → Int32)) (M_x1 : Int32) (M_r0 : (Nat → Int32)) (L_x6 : Int32) (M_x2 : Int32) (L_x7 : Int32) (M_x33 : Int32) (S_x5 : Int32) (S_x6 : Int32) (S_x7 : Int32) (S_x8 : Int32) (S_x9 : Int32) (S_r0 : (Nat → Int32)) (S_r1 : (Nat → Int32)) (S_r2 : (Nat → Int32)) (S_r3 : (Nat → Int32)) (S_r4 : (Nat → Int32)) (M_x12 : Int32) (M_r11 : (Nat → Int32)) (M_r15 : (Nat → Int32)) (M_x18 : Int32) (M_r9 : (Nat → Int32)) (M_r10 : (Nat → Int32)) (H0_x1 : Int32) (H0_x2 : Int32) (H0_r0 : (Nat → Int32)) (H1_x1 : Int32) (H1_x2 : Int32) (H1_r0 : (Nat → Int32)) (H2_x1 : Int32) (H2_x2 : Int32) (H2_r0 : (Nat → Int32)) (H3_x1 : Int32) (H3_x2 : Int32) (H3_r0 : (Nat → Int32)) (M_r30 : (Nat → Int32)) (M_r31 : (Nat → Int32)) (M_r32 : (Nat → Int32)) (hR : Rel E_x1 E_r0 M_x1 M_r0 L_x6 M_x2 L_x7 M_x33 S_x5 S_x6 S_x7 S_x8 S_x9 S_r0 S_r1 S_r2 S_r3 S_r4 M_x12 M_r11 M_r15 M_x18 M_r9 M_r10 H0_x1 H0_x2 H0_r0 H1_x1 H1_x2 H1_r0 H2_x1 H2_x2 H2_r0 H3_x1 H3_x2 H3_r0 M_r30 M_r31 M_r32) (a1 : Int32) : ∃ (t1 : Int32) (t2 : Int32), fX5_count E_x1 H0_x1 S_r0 S_r2 S_r4 S_x5 S_x6 a1 = some t1 ∧ fX6_count M_r11 M_r15 M_r30 M_r31 M_x1 M_x12 a1 = some t2 ∧ t1 = t2 ∧ Rel E_x1 E_r0 M_x1 M_r0 L_x6 M_x2 L_x7 M_x33 S_x5 S_x6 S_x7 S_x8 S_x9 S_r0 S_r1 S_r2 S_r3 S_r4 M_x12 M_r11 M_r15 M_x18 M_r9 M_r10 H0_x1 H0_x2 H0_r0 H1_x1 H1_x2 H1_r0 H2_x1 H2_x2 H2_r0 H3_x1 H3_x2 H3_r0 M_r30 M_r31 M_r32 := by
  have hR0 := hR
  obtain ⟨⟨nt, hnt, rfl, rfl, -⟩, -, -, ⟨⟨n, hn, rfl, rfl, hs⟩, r0, -⟩, -, -, ⟨h0, -⟩, -⟩ := hR
  unfold fX5_count fX6_count
  rw [count6_eq hn hs r0, bd_s, sum0_eq S_r0 hn, sum4_eq S_r4 hn, goodOnes_eq S_r2 S_x6 hn]
  simp only [bd_s, bitc _ (m256 hn), pc_mask _ n hn]
  by_cases k0 : a1 = 0
  · rw [if_pos k0, if_pos k0]; exact ⟨_, _, rfl, rfl, rfl, hR0⟩
  · rw [if_neg k0, if_neg k0]
    by_cases k1 : a1 = 1
    · rw [if_pos k1, if_pos k1]; exact ⟨_, _, rfl, rfl, rfl, hR0⟩
    · rw [if_neg k1, if_neg k1]
      by_cases k2 : a1 = 2
      · rw [if_pos k2, if_pos k2]; exact ⟨_, _, rfl, rfl, rfl, hR0⟩
      · rw [if_neg k2, if_neg k2]
        by_cases k3 : a1 = 3
        · rw [if_pos k3, if_pos k3]; exact ⟨_, _, rfl, rfl, rfl, hR0⟩
        · rw [if_neg k3, if_neg k3]
          by_cases k4 : a1 = 4
          · rw [if_pos k4, if_pos k4]; exact ⟨_, _, rfl, rfl, rfl, hR0⟩
          · rw [if_neg k4, if_neg k4]
            by_cases k5 : a1 = 5
            · rw [if_pos k5, if_pos k5]
              show ∃ t1 t2, _ ∧ (if M_r30 0 = -4 then _ else some (M_r31 0)) = some t2 ∧ _
              rcases h0 with ⟨rfl, h4⟩ | ⟨n0, hn0, rfl, hl, hla, hlane⟩
              · rw [if_neg (by decide), if_pos h4]; exact ⟨_, _, rfl, rfl, rfl, hR0⟩
              · rw [if_pos (nI_pos' (by omega)), if_neg (by rw [hla]; rcases hlane with rfl | rfl | rfl <;> decide), hl]; exact ⟨_, _, rfl, rfl, rfl, hR0⟩
            · rw [if_neg k5, if_neg k5]; exact ⟨_, _, rfl, rfl, rfl, hR0⟩
