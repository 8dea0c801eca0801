section SpurL
abbrev sQ (n : Nat) (many has would fail must : Nat → Int32) (mark look pay : Int32) (s : Nat) (v : Int32) : Stk := (n, many, has, would, fail, upd must s v, mark, look, pay)
def eachI (has would : Nat → Int32) (s : Nat) (p : Int32) : Int := if p < has s then 8000 * ((would s).toInt - p.toInt) else 0
theorem gm_ex {g : Nat → Bool} : ∀ {n : Nat}, ¬ gmask g n = 0 → ∃ i, i < n ∧ g i = true
  | 0, h => absurd rfl h
  | n + 1, h => by
    by_cases c : g n = true
    · exact ⟨n, by omega, c⟩
    · rw [gmask, if_neg c, Nat.add_zero] at h
      obtain ⟨i, h1, h2⟩ := gm_ex h
      exact ⟨i, by omega, h2⟩
theorem spur_iff {n : Nat} {many has would fail must : Nat → Int32} {mark look pay : Int32} {s : Nat} {v p : Int32} (hB0 : SB (sQ n many has would fail must mark look pay s 0)) (hBv : SB (sQ n many has would fail must mark look pay s v)) (hs : s < n) (g : Nat → Bool) (hg : ¬ gmask g n = 0) :
    (rB (sQ n many has would fail must mark look pay s v) 0 0 p = true ∧ oWhole (sQ n many has would fail must mark look pay s v) 0 0 p &&& nI (gmask g n) = nI (gmask g n)) ↔ (oWhole (sQ n many has would fail must mark look pay s 0) 0 0 p &&& nI (gmask g n) = nI (gmask g n) ∧ lackI (sQ n many has would fail must mark look pay s 0) p ≤ v.toInt * eachI has would s p) := by
  have ew : oWhole (sQ n many has would fail must mark look pay s v) 0 0 p = oWhole (sQ n many has would fail must mark look pay s 0) 0 0 p := by
    unfold oWhole
    exact wh_cong (fun i hi => by rw [al_0, al_0])
  have ec : ∀ i, i < n → ¬ i = s → oCo (sQ n many has would fail must mark look pay s v) 0 0 p i = oCo (sQ n many has would fail must mark look pay s 0) 0 0 p i := by
    intro i hi z
    rw [co_0, co_0]
    dsimp only
    rw [upd_at, if_neg z, upd_at, if_neg z]
  have y0 : (0 : Int32).toInt = 0 := rfl
  have e0 : (oCo (sQ n many has would fail must mark look pay s v) 0 0 p s).toInt - (oCo (sQ n many has would fail must mark look pay s 0) 0 0 p s).toInt = if p < has s then v.toInt else 0 := by
    rw [co_0, co_0]
    dsimp only
    by_cases z : p < has s
    · rw [if_pos z, if_pos z, if_pos z, upd_at, if_pos rfl, upd_at, if_pos rfl, y0]; omega
    · rw [if_neg z, if_neg z, if_neg z]; omega
  generalize hd : (if p < has s then v.toInt else 0) = d at e0
  have ep : (oParts (sQ n many has would fail must mark look pay s v) 0 0 p).toInt = (oParts (sQ n many has would fail must mark look pay s 0) 0 0 p).toInt + 800 * d := by
    rw [pa_0 hBv, pa_0 hB0, si_one (s := s) (n := n) (f := fun i => 800 * (oCo (sQ n many has would fail must mark look pay s 0) 0 0 p i).toInt) hs]
    · dsimp only
      omega
    · intro i hi z
      rw [ec i hi z]
  have et : (oTenths (sQ n many has would fail must mark look pay s v) 0 0 p).toInt = (oTenths (sQ n many has would fail must mark look pay s 0) 0 0 p).toInt + 800 * d * (10 * (would s).toInt) := by
    rw [te_0 hBv, te_0 hB0, si_one (s := s) (n := n) (f := fun i => 800 * (oCo (sQ n many has would fail must mark look pay s 0) 0 0 p i).toInt * (10 * (would i).toInt)) hs]
    · dsimp only
      rw [← Int.sub_mul, ← Int.mul_sub, e0]
    · intro i hi z
      dsimp only
      rw [ec i hi z]
  have ee : d * (8000 * ((would s).toInt - p.toInt)) = v.toInt * eachI has would s p := by
    unfold eachI
    rw [← hd]
    by_cases z : p < has s
    · rw [if_pos z, if_pos z]
    · rw [if_neg z, if_neg z, Int.zero_mul, Int.mul_zero]
  have key : p.toInt * (10 * ((oParts (sQ n many has would fail must mark look pay s 0) 0 0 p).toInt + 800 * d)) ≤ (oTenths (sQ n many has would fail must mark look pay s 0) 0 0 p).toInt + 800 * d * (10 * (would s).toInt) ↔ lackI (sQ n many has would fail must mark look pay s 0) p ≤ v.toInt * eachI has would s p := by
    rw [← ee]
    unfold lackI
    generalize (oParts (sQ n many has would fail must mark look pay s 0) 0 0 p).toInt = P
    generalize (oTenths (sQ n many has would fail must mark look pay s 0) 0 0 p).toInt = T
    generalize p.toInt = x
    generalize (would s).toInt = y
    have a1 : x * (10 * (P + 800 * d)) = x * (10 * P) + 8000 * (x * d) := by grind
    have a2 : 800 * d * (10 * y) = 8000 * (d * y) := by grind
    have a3 : d * (8000 * (y - x)) = 8000 * (d * y) - 8000 * (x * d) := by grind
    rw [a1, a2, a3]
    omega
  rw [rB_iff, ep, et, key, ew]
  constructor
  · rintro ⟨⟨h1, h2⟩, h3⟩
    exact ⟨h3, h2⟩
  · rintro ⟨h1, h2⟩
    refine ⟨⟨?_, h2⟩, h1⟩
    rw [← ep]
    obtain ⟨i, hi, hgi⟩ := gm_ex hg
    have h3 := (wh_all (Q := sQ n many has would fail must mark look pay s 0) hB0.1 g).mp h1 i hi hgi
    rw [al_0] at h3
    exact (pa_pos hBv (p := p) hi (by rw [al_0]; exact h3)).1
theorem spur5 {n : Nat} {many has would fail must : Nat → Int32} {mark look pay : Int32} {s : Nat} (hB : SB (n, many, has, would, fail, must, mark, look, pay)) (hs : s < n) (W : Int32) (r : Nat → Int32) (x1 x2 x3 x4 x5 x6 : Int32) :
    ∃ t L, loopF (fX5_spur_b52 (nI s) W many has would fail must (nI n) mark look pay) 1000 ((1000000 : Int32), (0 : Int32), r, x1, x2, x3, x4, x5, x6) = some t ∧ t.1 = nI L ∧ MinOf (fun v => ∃ p, p < 100 ∧ oWhole (n, many, has, would, fail, must, mark, look, pay) 0 0 (nI p) &&& W = W ∧ lackI (n, many, has, would, fail, must, mark, look, pay) (nI p) ≤ (v : Int) * eachI has would s (nI p)) L := by
  have hn : n ≤ 8 := hB.1
  obtain ⟨t, h1, L, h2, h3⟩ := loop_to (fX5_spur_b52 (nI s) W many has would fail must (nI n) mark look pay) (fun i v => v.2.1 = nI i ∧ ∃ L, v.1 = nI L ∧ MinOf (fun v => ∃ p, p < i ∧ oWhole (n, many, has, would, fail, must, mark, look, pay) 0 0 (nI p) &&& W = W ∧ lackI (n, many, has, would, fail, must, mark, look, pay) (nI p) ≤ (v : Int) * eachI has would s (nI p)) L) (fun t => ∃ L, t.1 = nI L ∧ MinOf (fun v => ∃ p, p < 100 ∧ oWhole (n, many, has, would, fail, must, mark, look, pay) 0 0 (nI p) &&& W = W ∧ lackI (n, many, has, would, fail, must, mark, look, pay) (nI p) ≤ (v : Int) * eachI has would s (nI p)) L) 100 (v := ((1000000 : Int32), (0 : Int32), r, x1, x2, x3, x4, x5, x6)) (by omega) ⟨rfl, 1000000, rfl, Min_none (fun v ⟨p, h1, _⟩ => by omega)⟩ (by
    rintro i ⟨b1, b2, y1, y2, y3, y4, y5, y6, y7⟩ hi ⟨q1, L, q2, q3⟩
    dsimp only at q1 q2
    subst q1; subst q2
    have hp := vp_nI (i := i) (by omega)
    have hc : ¬ (100 : Int32) ≤ nI i := nle (n := 100) (by omega) (by omega)
    obtain ⟨pf, g1, g2⟩ := make5 hn many has would fail must mark look pay y1 0 0 (nI i)
    have lk := lack_i hB (p := nI i) hk00 hp
    have lb := lack_b hB hp
    unfold fX5_spur_b52
    dsimp only
    rw [if_neg hc, g1, bd_s]
    unfold fX4_bringsAll fX4_lackAt fX4_shares
    dsimp only
    by_cases c : oWhole (n, many, has, would, fail, must, mark, look, pay) 0 0 (nI i) &&& W = W
    · have y8 : (8000 : Int32).toInt = 8000 := rfl
      have y0 : (0 : Int32).toInt = 0 := rfl
      have hone := hB.2.1 s hs
      unfold ROne at hone
      dsimp only at hone
      obtain ⟨hp1, hp2⟩ := id hp
      have es : (would s - nI i).toInt = (would s).toInt - (nI i).toInt := fb_subI (by omega) (by omega)
      have em : ((8000 : Int32) * (would s - nI i)).toInt = 8000 * ((would s).toInt - (nI i).toInt) := by
        rw [fb_mulI (by rw [y8, es]; omega) (by rw [y8, es]; omega), y8, es]
      have ek : ∃ e : Int32, (bd (if oWhole (n, many, has, would, fail, must, mark, look, pay) 0 0 (nI i) &&& (1 : Int32) <<< (nI s &&& 31) = (1 : Int32) <<< (nI s &&& 31) then some (1 : Int32) else some 0) (fun t3 => if t3 = 0 then (ckI (nI s) 8 (some ((8000 : Int32) * (would (nI s).toNatClampNeg - nI i)))) else some 0)) = some e ∧ e.toInt = eachI has would s (nI i) := by
        unfold eachI
        by_cases z : oWhole (n, many, has, would, fail, must, mark, look, pay) 0 0 (nI i) &&& (1 : Int32) <<< (nI s &&& 31) = (1 : Int32) <<< (nI s &&& 31)
        · have z' := (wh_one (Q := (n, many, has, would, fail, must, mark, look, pay)) hn hs).mp z
          rw [al_0] at z'
          have z3 : ¬ nI i < has s := by intro q; rw [if_pos q] at z'; exact z' rfl
          rw [if_pos z, bd_s, if_neg (by decide), if_neg z3]
          exact ⟨_, rfl, rfl⟩
        · have z' : ¬ ¬ oAl (n, many, has, would, fail, must, mark, look, pay) 0 0 (nI i) s = 0 := fun q => z ((wh_one (Q := (n, many, has, would, fail, must, mark, look, pay)) hn hs).mpr q)
          rw [al_0] at z'
          have z3 : nI i < has s := by
            by_cases q : nI i < has s
            · exact q
            · dsimp only at z'; rw [if_neg q] at z'; exact absurd (by decide) z'
          rw [if_neg z, bd_s, if_pos rfl, if_pos z3, ckI_nI (by omega) (by omega), nI_clamp (by omega)]
          exact ⟨_, rfl, em⟩
      obtain ⟨e, ek1, ek2⟩ := ek
      have eb : (e.toInt ≤ 0 ∨ 800 ≤ e.toInt) ∧ e.toInt ≤ 1000000 := by
        rw [ek2]
        unfold eachI
        split
        · omega
        · omega
      obtain ⟨x, f1, f2⟩ := few (lack := nI i * (10 * oParts (n, many, has, would, fail, must, mark, look, pay) 0 0 (nI i)) - oTenths (n, many, has, would, fail, must, mark, look, pay) 0 0 (nI i)) (each := e) (by rw [lk]; unfold lackI at lb; omega) eb.1 eb.2
      rw [lk, ek2] at f2
      have asm : bd (if oWhole (n, many, has, would, fail, must, mark, look, pay) 0 0 (nI i) &&& (1 : Int32) <<< (nI s &&& 31) = (1 : Int32) <<< (nI s &&& 31) then some (1 : Int32) else some 0) (fun t3 => bd (if t3 = 0 then (ckI (nI s) 8 (some ((8000 : Int32) * (would (nI s).toNatClampNeg - nI i)))) else some 0) (fun t4 => bd (bd (some ((10 : Int32) * oParts (n, many, has, would, fail, must, mark, look, pay) 0 0 (nI i))) (fun t1 => some (nI i * t1 - oTenths (n, many, has, would, fail, must, mark, look, pay) 0 0 (nI i)))) (fun t5 => bd (fX5_fewestSteps t5 t4) (fun t6 => some (if t6 < nI L then t6 else nI L))))) = some (if nI x < nI L then nI x else nI L) := by
        obtain ⟨t3, a1, a2⟩ := bd_some ek1
        rw [a1, bd_s, a2, bd_s, bd_s, bd_s, f1, bd_s]
      simp only [if_pos c, bd_s, one0, ite_false] at asm ⊢
      rw [asm, bd_s]
      refine ⟨_, rfl, nI_1 _, (if x < L then x else L), ?_, ?_⟩
      · dsimp only
        have l1 := q3.1
        have l2 := f2.1
        by_cases z : x < L
        · rw [if_pos z, if_pos (by rw [fa_lt, nI_toInt (by omega), nI_toInt (by omega)]; omega)]
        · rw [if_neg z, if_neg (by rw [fa_lt, nI_toInt (by omega), nI_toInt (by omega)]; omega)]
      · refine Min_iff (Min_or q3 f2) (fun v => ?_)
        constructor
        · rintro (⟨p, h2, h3⟩ | h)
          · exact ⟨p, by omega, h3⟩
          · exact ⟨i, by omega, c, h⟩
        · rintro ⟨p, h2, h3⟩
          by_cases z : p = i
          · rw [z] at h3; exact Or.inr h3.2
          · exact Or.inl ⟨p, by omega, h3⟩
    · simp only [if_neg c, bd_s, ite_true]
      refine ⟨_, rfl, nI_1 _, L, rfl, ?_⟩
      refine Min_iff q3 (fun v => ?_)
      constructor
      · rintro ⟨p, h2, h3⟩
        exact ⟨p, by omega, h3⟩
      · rintro ⟨p, h2, h3⟩
        by_cases z : p = i
        · rw [z] at h3; exact absurd h3.1 c
        · exact ⟨p, by omega, h3⟩) (by
    rintro ⟨b1, b2, y1, y2, y3, y4, y5, y6, y7⟩ ⟨q1, L, q2, q3⟩
    dsimp only at q1 q2
    subst q1; subst q2
    unfold fX5_spur_b52
    dsimp only
    rw [if_pos (show (100 : Int32) ≤ nI 100 by decide)]
    exact ⟨_, rfl, L, rfl, q3⟩)
  exact ⟨t, L, h1, h2, h3⟩
theorem spur6 {n : Nat} {sorts rules many has would fail must : Nat → Int32} {mark look pay : Int32} {s : Nat} (hn : n ≤ 8) (hs : s < n) (hS : SS n sorts many has would fail must) (hr : VR mark look pay) (r0 : rules 0 = mark) (r1 : rules 1 = look) (r2 : rules 2 = pay) (W l3 : Int32) {N : Nat} (hN : (many s) = nI N) (hN2 : N ≤ 50) (g1 g2 g3 : Int64) (c0 s0 : Nat → Int32) (x1 x2 x3 : Int32) :
    ∃ t, loopF (fX6_spur_b72 (nI s) W l3 rules (nI n) (-4)) 1000 ((-4 : Int32), nI N, g1, g2, g3, sorts, c0, s0, x1, x2, x3) = some t ∧ Lst (fun v => ¬ W = 0 ∧ GoOn (sQ n many has would fail must mark look pay s (nI v)) 0 W 0 100) 0 (N + 1) t.1 ∧ ∀ j, ¬ j = 5 * s + 4 → t.2.2.2.2.1 j = sorts j := by
  refine loop_to _ (fun i v => v.2.1 + 1 = nI (N + 1 - i) ∧ Lst (fun v => ¬ W = 0 ∧ GoOn (sQ n many has would fail must mark look pay s (nI v)) 0 W 0 100) (N + 1 - i) (N + 1) v.1 ∧ ∀ j, ¬ j = 5 * s + 4 → v.2.2.2.2.2.1 j = sorts j) _ (N + 1) (by omega) ⟨nI_1 N, Or.inl ⟨rfl, fun j h1 h2 => by omega⟩, fun _ _ => rfl⟩ ?_ ?_
  · rintro i ⟨b1, b2, y1, y2, y3, y4, y5, y6, y7, y8, y9⟩ hi ⟨q1, q2, q3⟩
    dsimp only at q1 q2 q3
    have qb : b2 = nI (N - i) := by
      have : b2 = nI (N + 1 - i) + (-1) := by rw [← q1, Int32.add_assoc]; exact (Int32.add_zero b2).symm
      rw [this, dec_nI (by omega) (by omega), show N + 1 - i - 1 = N - i by omega]
    subst qb
    have e := nI_toInt (n := N - i) (by omega)
    have hc : ¬ nI (N - i) < (0 : Int32) := by rw [fa_lt, e]; have : (0 : Int32).toInt = 0 := rfl; omega
    have hone := (hS s hs).2.2.2.2.2
    have hm : (many s).toInt = (N : Int) := by rw [hN, nI_toInt (by omega)]
    have hone' : ROne (many s) (has s) (would s) (fail s) (nI (N - i)) := by
      unfold ROne at hone ⊢
      omega
    have hS' := SS_upd4 hS hs hone'
    have hB : SB (sQ n many has would fail must mark look pay s (nI (N - i))) := SB_of hn hS' hr
    have hD := rests_w (rules := rules) hS' hB r0 r1 r2 (k := 0) hk00
    obtain ⟨b, T, k1, k2⟩ := goes6 hD (f := 0) (by omega) W y1 y2 y3 y5 y6 y7 y8 y9
    unfold fX6_spur_b72
    dsimp only
    rw [if_neg hc, i54 s (by omega), ckI_nI (by omega) (by omega), nI_clamp (by omega), upd_upd sorts _ _ q3]
    have k1' : fX6_goesOn y1 y2 y3 (upd sorts (5 * s + 4) (nI (N - i))) rules y5 y6 (nI n) (-4) y7 y8 y9 0 0 W = some (b, T) := k1
    rw [k1', bd_s]
    dsimp only
    have e9 : N + 1 - i = (N + 1 - (i + 1)) + 1 := by omega
    have e8 : N - i = N + 1 - (i + 1) := by omega
    have en : nI (N - i) + -1 + 1 = nI (N + 1 - (i + 1)) := by
      rw [Int32.add_assoc, ← e8]; exact Int32.add_zero _
    have eo : ∀ j, ¬ j = 5 * s + 4 → upd sorts (5 * s + 4) (nI (N - i)) j = sorts j := by
      intro j hj
      rw [upd_at, if_neg hj]
    by_cases c : b = 0
    · rw [if_pos c, bd_s]
      refine ⟨_, rfl, ?_⟩
      refine ⟨en, ?_, eo⟩
      rw [e9] at q2
      refine Lst_no q2 ?_
      intro q
      rw [← e8] at q
      exact k2.mpr q c
    · rw [if_neg c, bd_s]
      refine ⟨_, rfl, ?_⟩
      refine ⟨en, ?_, eo⟩
      dsimp only
      have := k2.mp c
      rw [e8] at this ⊢
      exact Lst_yes (M := fun v => ¬ W = 0 ∧ GoOn (sQ n many has would fail must mark look pay s (nI v)) 0 W 0 100) (by omega) this
  · rintro ⟨b1, b2, y1, y2, y3, y4, y5, y6, y7, y8, y9⟩ ⟨q1, q2, q3⟩
    dsimp only at q1 q2 q3
    have qb : b2 = -1 := by
      have : b2 = nI (N + 1 - (N + 1)) + (-1) := by rw [← q1, Int32.add_assoc]; exact (Int32.add_zero b2).symm
      rw [this, Nat.sub_self]; rfl
    subst qb
    unfold fX6_spur_b72
    dsimp only
    rw [if_pos (show (-1 : Int32) < (0 : Int32) by decide)]
    rw [Nat.sub_self] at q2
    exact ⟨_, rfl, q2, q3⟩
def worthB (has would : Nat → Int32) (j : Nat) : Bool := decide ((has j).toInt < (would j).toInt)
theorem worth5 {n : Nat} {sorts many has would fail must : Nat → Int32} (hn : n ≤ 8) (hs : SS n sorts many has would fail must) : fX2_worthTrading has would (nI n) = some (nI (gmask (worthB has would) n)) := by
  unfold fX2_worthTrading
  obtain ⟨t, h1, h2⟩ := loop_to (fX2_worthTrading_b4 (nI n) has would) (fun i v => v.1 = nI (gmask (worthB has would) i) ∧ v.2 = nI i) (fun t => t = nI (gmask (worthB has would) n)) n (v := ((0 : Int32), (0 : Int32))) (by omega) ⟨rfl, rfl⟩ (by
    rintro i ⟨b1, b2⟩ hi ⟨q1, q2⟩
    dsimp only at q1 q2
    subst q1; subst q2
    unfold fX2_worthTrading_b4
    dsimp only
    have hone := (hs i hi).2.2.2.2.2
    unfold ROne at hone
    have e : (would i - has i).toInt = (would i).toInt - (has i).toInt := fb_subI (by omega) (by omega)
    have y0 : (0 : Int32).toInt = 0 := rfl
    rw [if_neg (nle hi (by omega)), sur_eq (by omega), bd_s]
    by_cases c : would i - has i ≤ 0
    · rw [if_pos c, bd_s]
      rw [fa_le, e, y0] at c
      refine ⟨_, rfl, ?_, nI_1 i⟩
      dsimp only
      rw [gmask, if_neg (by unfold worthB; rw [decide_eq_false (by omega)]; decide), Nat.add_zero, Int32.or_zero]
    · rw [if_neg c, bd_s]
      rw [fa_le, e, y0] at c
      refine ⟨_, rfl, ?_, nI_1 i⟩
      dsimp only
      rw [gmask, if_pos (by unfold worthB; rw [decide_eq_true (by omega)]), shl1 i (by omega), or_bit (by omega)]) (by
    rintro ⟨b1, b2⟩ ⟨q1, q2⟩
    dsimp only at q1 q2
    subst q1; subst q2
    unfold fX2_worthTrading_b4
    dsimp only
    rw [if_pos (by rw [fa_le]; omega)]
    exact ⟨_, rfl, rfl⟩)
  rw [h1, h2, bd_s]
theorem worth6 {n : Nat} {sorts many has would fail must : Nat → Int32} (hn : n ≤ 8) (hs : SS n sorts many has would fail must) (a : Int32) : loopF (fX6_spur_b14 a (nI n) sorts) 1000 ((0 : Int32), (0 : Int32)) = some (nI (gmask (worthB has would) n)) := by
  obtain ⟨t, h1, h2⟩ := loop_to (fX6_spur_b14 a (nI n) sorts) (fun i v => v.1 = nI (gmask (worthB has would) i) ∧ v.2 = nI i) (fun t => t = nI (gmask (worthB has would) n)) n (v := ((0 : Int32), (0 : Int32))) (by omega) ⟨rfl, rfl⟩ (by
    rintro i ⟨b1, b2⟩ hi ⟨q1, q2⟩
    dsimp only at q1 q2
    subst q1; subst q2
    unfold fX6_spur_b14
    dsimp only
    rw [if_neg (nle hi (by omega)), i2' (by omega), bd_s, i1' (by omega), bd_s, (hs i hi).2.2.1, (hs i hi).2.1]
    by_cases c : would i ≤ has i
    · rw [if_pos c, bd_s]
      rw [fa_le] at c
      refine ⟨_, rfl, ?_, nI_1 i⟩
      dsimp only
      rw [gmask, if_neg (by unfold worthB; rw [decide_eq_false (by omega)]; decide), Nat.add_zero, Int32.or_zero]
    · rw [if_neg c, bd_s]
      rw [fa_le] at c
      refine ⟨_, rfl, ?_, nI_1 i⟩
      dsimp only
      rw [gmask, if_pos (by unfold worthB; rw [decide_eq_true (by omega)]), shl1 i (by omega), or_bit (by omega)]) (by
    rintro ⟨b1, b2⟩ ⟨q1, q2⟩
    dsimp only at q1 q2
    subst q1; subst q2
    unfold fX6_spur_b14
    dsimp only
    rw [if_pos (by rw [fa_le]; omega)]
    exact ⟨_, rfl, rfl⟩)
  rw [h1, h2]
end SpurL
