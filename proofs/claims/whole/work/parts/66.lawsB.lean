section LawsO
theorem loop_go {V T : Type} {B : V → Option (V ⊕ T)} {v v' : V} {n : Nat} (h : B v = some (.inl v')) : loopF B (n + 1) v = loopF B n v' := by
  show bd (B v) _ = _
  rw [h]
  rfl
theorem loop_end {V T : Type} {B : V → Option (V ⊕ T)} {v : V} {t : T} {n : Nat} (h : B v = some (.inr t)) : loopF B (n + 1) v = some t := by
  show bd (B v) _ = _
  rw [h]
  rfl
theorem loop_twoF {V T V' T' : Type} (B : V → Option (V ⊕ T)) (B' : V' → Option (V' ⊕ T')) (inv : Nat → V → V' → Prop) (P : T → T' → Prop) (N : Nat)
    (hs : ∀ k v v', k < N → inv k v v' → ∃ w w', B v = some (.inl w) ∧ B' v' = some (.inl w') ∧ inv (k + 1) w w')
    (he : ∀ v v', inv N v v' → ∃ t t', B v = some (.inr t) ∧ B' v' = some (.inr t') ∧ P t t') : ∀ (d k : Nat) (v : V) (v' : V') (n n' : Nat), k + d = N → d < n → d < n' → inv k v v' → ∃ t t', loopF B n v = some t ∧ loopF B' n' v' = some t' ∧ P t t' := by
  intro d
  induction d with
  | zero =>
    intro k v v' n n' hk hn hn' hv
    obtain ⟨n, rfl⟩ : ∃ m, n = m + 1 := ⟨n - 1, by omega⟩
    obtain ⟨n', rfl⟩ : ∃ m, n' = m + 1 := ⟨n' - 1, by omega⟩
    obtain ⟨t, t', h1, h2, h3⟩ := he v v' (by rw [← hk]; exact hv)
    exact ⟨t, t', by show bd (B v) _ = _; rw [h1]; rfl, by show bd (B' v') _ = _; rw [h2]; rfl, h3⟩
  | succ d ih =>
    intro k v v' n n' hk hn hn' hv
    obtain ⟨n, rfl⟩ : ∃ m, n = m + 1 := ⟨n - 1, by omega⟩
    obtain ⟨n', rfl⟩ : ∃ m, n' = m + 1 := ⟨n' - 1, by omega⟩
    obtain ⟨w, w', h1, h2, h3⟩ := hs k v v' (by omega) hv
    obtain ⟨t, t', h4, h5, h6⟩ := ih (k + 1) w w' n n' (by omega) (by omega) (by omega) h3
    exact ⟨t, t', by show bd (B v) _ = _; rw [h1]; exact h4, by show bd (B' v') _ = _; rw [h2]; exact h5, h6⟩
theorem kd_VO {b : Nat} (hb : b < 16) {w : Int32} (hw : VP w) : VO (nI (kd b)) w := ⟨(kd_vo b hb).1, (kd_vo b hb).2.1, hw.1, hw.2, fun q => absurd q (kd_vo b hb).2.2⟩
variable (P0 P1 P2 P3 P4 : Nat → Int32) (P5 P6 P7 P8 P9 : Int32) (T0 : Nat → Int32) (T1 T2 T3 T4 T5 T6 : Int32) (g1 g2 g3 : Int64) (c0 s0 : Nat → Int32) (x1 x2 x3 keen : Int32)
theorem law_A {n : Nat} {sorts rules many has would fail must : Nat → Int32} {mark look pay : Int32} (hS : SS n sorts many has would fail must) (hB : SB (n, many, has, would, fail, must, mark, look, pay)) (r0 : rules 0 = mark) (r1 : rules 1 = look) (r2 : rules 2 = pay) {b : Nat} (hb : b < 16) (h4 : nI b &&& (4 : Int32) = 0) {w : Int32} (hw : VP w) :
    ∃ q u, fX5_bestPrice many has would fail must (nI n) mark look pay T0 T1 T2 T3 T4 T5 T6 (nI (kd b)) w = some q ∧ fX6_layLaws g1 g2 g3 sorts rules c0 s0 (nI n) (-4) x1 x2 x3 (nI b) w = some u ∧ q.1 = u.2.2.2.2.2.2.2.2.2.2.1 ∧ u.2.2.2.2.2.2.1 = -4 ∧
      ∃ t, fX5_outcome P0 P1 P2 P3 P4 P5 P6 P7 P8 P9 many has would fail must (nI n) mark look pay keen T0 T1 T2 T3 T4 T5 T6 (nI b) w = some t ∧ t.1 = u.2.2.2.2.2.2.2.2.2.2.2 := by
  have hk := kd_VO hb hw
  have hn : n ≤ 8 := hB.1
  obtain ⟨pf, y1, y2, y3, y4, y5, y6, e1⟩ := best5 hB T0 T1 T2 T3 T4 T5 T6 hk
  obtain ⟨u1, u2, u3, u4, cm, so, z1, z2, z3, e2, e3⟩ := best6 (rests_as hS hB r0 r1 r2 hk) c0 s0 g1 g2 g3 x1 x2 x3
  have eO : (u4 - (0 : Int64)).toInt32 = (bp (n, many, has, would, fail, must, mark, look, pay) (nI (kd b)) w 100).2 := toI32 (by rw [Int64.sub_zero]; exact e3)
  refine ⟨_, _, e1, by unfold fX6_layLaws; rw [if_pos h4, bd_s, kd_6 b hb, bd_s]; dsimp only; rw [e2, bd_s], rfl, rfl, ?_⟩
  dsimp only
  rw [eO]
  unfold fX5_outcome fX5_leftBya
  rw [if_pos h4, bd_s, kd_5 b hb, bd_s, e1, bd_s]
  dsimp only
  rcases bp_spec (n, many, has, would, fail, must, mark, look, pay) (nI (kd b)) w 100 (by omega) with ⟨b1, b2⟩ | ⟨j, hj, b1, b2⟩
  · rw [if_pos b1, bd_s, b2]
    exact ⟨_, rfl, rfl⟩
  · have b3 : ¬ (bp (n, many, has, would, fail, must, mark, look, pay) (nI (kd b)) w 100).1 = -4 := by rw [b1]; exact nI_m4 j (by omega)
    rw [if_neg b3, b1, b2]
    unfold fX5_gainAt
    obtain ⟨pf', g4, -⟩ := make5 hn many has would fail must mark look pay pf (nI (kd b)) w (nI j)
    rw [g4]
    exact ⟨_, rfl, rfl⟩
theorem spent_eq {G many has : Int32} {u4 : Int64} (h1 : 0 ≤ many.toInt) (h2 : many.toInt ≤ 50) (h3 : 0 ≤ has.toInt) (h4 : has.toInt ≤ 99) (hG : u4.toInt = G.toInt) (hG1 : -38080000 ≤ G.toInt) (hG2 : G.toInt ≤ 31680000) :
    (u4 - (800 : Int64) * many.toInt64 * has.toInt64).toInt32 = G - (800 : Int32) * many * has := by
  have z8 : (800 : Int32).toInt = 800 := rfl
  have z8L : (800 : Int64).toInt = 800 := rfl
  have m1 := mulB (x := 800) (y := many) 800 50 (by decide) (by decide) (by omega) (by omega) (by omega) (by omega)
  have n1 := mb1 (x := (800 : Int)) (a := 800) (by omega) (by omega) h1 h2
  rw [z8] at m1
  have m2 := mulB (x := 800 * many) (y := has) 40000 99 (by rw [m1.1]; omega) (by rw [m1.1]; omega) (by omega) (by omega) (by omega) (by omega)
  have n2 := mb1 (x := 800 * many.toInt) (a := 40000) (by omega) (by omega) h3 h4
  have l1 := mulL (x := (800 : Int64)) (y := many.toInt64) 800 50 (by decide) (by decide) (by omega) (by rw [toL]; omega) (by rw [toL]; omega) (by omega)
  rw [z8L, toL] at l1
  have l2 := mulL (x := (800 : Int64) * many.toInt64) (y := has.toInt64) 40000 99 (by rw [l1.1]; omega) (by rw [l1.1]; omega) (by omega) (by rw [toL]; omega) (by rw [toL]; omega) (by omega)
  rw [l1.1, toL] at l2
  rw [m1.1] at m2
  apply toI32
  rw [fb_subL (by rw [hG, l2.1]; omega) (by rw [hG, l2.1]; omega), fb_subI (by rw [m2.1]; omega) (by rw [m2.1]; omega), hG, l2.1, m2.1]
theorem law_B {m : Nat} (hm : m + 1 ≤ 8) {sorts rules many has would fail must : Nat → Int32} {mark look pay : Int32} (hS : SS (m + 1) sorts many has would fail must) (hr : VR mark look pay) (r0 : rules 0 = mark) (r1 : rules 1 = look) (r2 : rules 2 = pay) {b : Nat} (hb : b < 16) (h4 : ¬ nI b &&& (4 : Int32) = 0) {w : Int32} (hw : VP w) :
    ∃ l q u, fX5_leftByb P0 P1 P2 P3 P4 many has would fail must (nI (m + 1)) mark look pay keen (nI b) = some l ∧ fX5_bestPrice l.1 l.2.1 l.2.2.1 l.2.2.2.1 l.2.2.2.2.1 l.2.2.2.2.2.1 l.2.2.2.2.2.2.1 l.2.2.2.2.2.2.2.1 l.2.2.2.2.2.2.2.2.1 T0 T1 T2 T3 T4 T5 T6 (nI (kd b)) w = some q ∧ fX6_layLaws g1 g2 g3 sorts rules c0 s0 (nI (m + 1)) (-4) x1 x2 x3 (nI b) w = some u ∧ q.1 = u.2.2.2.2.2.2.2.2.2.2.1 ∧ u.2.2.2.2.2.2.1 = -4 ∧
      ∃ t, fX5_outcome P0 P1 P2 P3 P4 P5 P6 P7 P8 P9 many has would fail must (nI (m + 1)) mark look pay keen T0 T1 T2 T3 T4 T5 T6 (nI b) w = some t ∧ t.1 = u.2.2.2.2.2.2.2.2.2.2.2 := by
  have hk := kd_VO hb hw
  obtain ⟨many', has', would', fail', must', eL, hv⟩ := left5 hm P0 P1 P2 P3 P4 many has would fail must mark look pay keen (nI b)
  have hj := wi_le would m
  have hj8 : wi would m < 8 := by omega
  obtain ⟨s0', s1', s2', s3', s4', a1, a2, a3, a4, -⟩ := hS (wi would m) (by omega)
  have hO := SB_vw hm hS hv
  have hB' : SB (m, many', has', would', fail', must', mark, look, pay) := ⟨by show m ≤ 8; omega, hO, hr⟩
  obtain ⟨pf, y1, y2, y3, y4, y5, y6, e1⟩ := best5 hB' T0 T1 T2 T3 T4 T5 T6 hk
  obtain ⟨u1, u2, u3, u4, cm, so, z1, z2, z3, e2, e3⟩ := best6 (rests_j hm hj hS (SS_mk5 hO) hB' r0 r1 r2 hv hk) c0 s0 g1 g2 g3 x1 x2 x3
  have hG : -38080000 ≤ (bp (m, many', has', would', fail', must', mark, look, pay) (nI (kd b)) w 100).2.toInt ∧ (bp (m, many', has', would', fail', must', mark, look, pay) (nI (kd b)) w 100).2.toInt ≤ 31680000 := by
    rcases bp_spec (m, many', has', would', fail', must', mark, look, pay) (nI (kd b)) w 100 (by omega) with ⟨b1, b2⟩ | ⟨j, hj, b1, b2⟩
    · rw [b2]; decide
    · rw [b2]; exact gained_b hB' hk
  have eO := spent_eq (by omega) a2 a3 a4 e3 hG.1 hG.2
  refine ⟨_, _, _, eL, e1, by unfold fX6_layLaws; rw [if_neg h4, worst6 hm hS, bd_s, i0' hj8, bd_s, i1' hj8, bd_s, bd_s, kd_6 b hb, bd_s]; dsimp only; rw [e2, bd_s], rfl, rfl, ?_⟩
  dsimp only
  rw [s0', s1', eO]
  unfold fX5_outcome
  rw [if_neg h4, eL, bd_s, kd_5 b hb, bd_s]
  dsimp only
  rw [e1, bd_s]
  dsimp only
  rw [worst5 would hm]
  have ck : ∀ {α : Type} (x : Option α), ckI (nI (wi would m)) 8 x = x := fun x => ckI_nI hj8 (by omega) x
  rcases bp_spec (m, many', has', would', fail', must', mark, look, pay) (nI (kd b)) w 100 (by omega) with ⟨b1, b2⟩ | ⟨j, hj, b1, b2⟩
  · rw [if_pos b1, bd_s, b2, bd_s, ck, ck, nI_clamp (by omega)]
    exact ⟨_, rfl, rfl⟩
  · have b3 : ¬ (bp (m, many', has', would', fail', must', mark, look, pay) (nI (kd b)) w 100).1 = -4 := by rw [b1]; exact nI_m4 j (by omega)
    rw [if_neg b3, b1, b2]
    unfold fX5_gainAt
    obtain ⟨pf', g4, -⟩ := make5 (show m ≤ 8 by omega) many' has' would' fail' must' mark look pay pf (nI (kd b)) w (nI j)
    rw [g4, bd_s, bd_s, bd_s, bd_s, ck, ck, nI_clamp (by omega)]
    exact ⟨_, rfl, rfl⟩
theorem law_out {n : Nat} {sorts rules many has would fail must : Nat → Int32} {mark look pay : Int32} (hS : SS n sorts many has would fail must) (hB : SB (n, many, has, would, fail, must, mark, look, pay)) (r0 : rules 0 = mark) (r1 : rules 1 = look) (r2 : rules 2 = pay) {b : Nat} (hb : b < 16) (h4 : nI b &&& (4 : Int32) = 0 ∨ 1 ≤ n) {w : Int32} (hw : VP w) :
    ∃ t u, fX5_outcome P0 P1 P2 P3 P4 P5 P6 P7 P8 P9 many has would fail must (nI n) mark look pay keen T0 T1 T2 T3 T4 T5 T6 (nI b) w = some t ∧ fX6_layLaws g1 g2 g3 sorts rules c0 s0 (nI n) (-4) x1 x2 x3 (nI b) w = some u ∧ t.1 = u.2.2.2.2.2.2.2.2.2.2.2 ∧ u.2.2.2.2.2.2.1 = -4 := by
  by_cases c : nI b &&& (4 : Int32) = 0
  · obtain ⟨q, u, -, h2, -, h4, t, h5, h6⟩ := law_A P0 P1 P2 P3 P4 P5 P6 P7 P8 P9 T0 T1 T2 T3 T4 T5 T6 g1 g2 g3 c0 s0 x1 x2 x3 keen hS hB r0 r1 r2 hb c hw
    exact ⟨t, u, h5, h2, h6, h4⟩
  · obtain ⟨m, rfl⟩ : ∃ m, n = m + 1 := ⟨n - 1, by rcases h4 with h | h; exact absurd h c; omega⟩
    obtain ⟨l, q, u, -, -, h2, -, h4, t, h5, h6⟩ := law_B P0 P1 P2 P3 P4 P5 P6 P7 P8 P9 T0 T1 T2 T3 T4 T5 T6 g1 g2 g3 c0 s0 x1 x2 x3 keen hB.1 hS hB.2.2 r0 r1 r2 hb c hw
    exact ⟨t, u, h5, h2, h6, h4⟩
theorem law_first : ∀ n, n < 9 → fX6_areLaws (nI n) (0 : Int32) = some 1 := by decide +kernel
end LawsO
