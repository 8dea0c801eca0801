section PartM
def failB (fail : Nat → Int32) (f : Int32) (j : Nat) : Bool := !decide (f < fail j)
theorem fail5 {n : Nat} {fail : Nat → Int32} (hn : n ≤ 8) (f : Int32) : fX2_failingAtMost fail (nI n) f = some (nI (gmask (failB fail f) n)) := by
  unfold fX2_failingAtMost
  obtain ⟨t, h1, h2⟩ := loop_to (fX2_failingAtMost_b4 f (nI n) fail) (fun i v => v.1 = nI (gmask (failB fail f) i) ∧ v.2 = nI i) (fun t => t = nI (gmask (failB fail f) n)) n (v := ((0 : Int32), (0 : Int32))) (by omega) ⟨rfl, rfl⟩ (by
    rintro i ⟨b1, b2⟩ hi ⟨q1, q2⟩
    dsimp only at q1 q2
    subst q1; subst q2
    unfold fX2_failingAtMost_b4
    dsimp only
    rw [if_neg (nle hi (by omega)), ckI_nI (by omega) (by omega), nI_clamp (by omega)]
    by_cases c : f < fail i
    · rw [if_pos c, bd_s]
      refine ⟨_, rfl, ?_, nI_1 i⟩
      dsimp only
      rw [gmask, if_neg (by unfold failB; rw [decide_eq_true c]; decide), Nat.add_zero, Int32.or_zero]
    · rw [if_neg c, bd_s]
      refine ⟨_, rfl, ?_, nI_1 i⟩
      dsimp only
      rw [gmask, if_pos (by unfold failB; rw [decide_eq_false c]; rfl), shl1 i (by omega), or_bit (by omega)]) (by
    rintro ⟨b1, b2⟩ ⟨q1, q2⟩
    dsimp only at q1 q2
    subst q1; subst q2
    unfold fX2_failingAtMost_b4
    dsimp only
    rw [if_pos (by rw [fa_le]; omega)]
    exact ⟨_, rfl, rfl⟩)
  rw [h1, h2, bd_s]
theorem fail6 {n : Nat} {sorts many has would fail must : Nat → Int32} (hn : n ≤ 8) (hs : SS n sorts many has would fail must) (f a : Int32) : loopF (fX6_part_b29 f a (nI n) sorts) 1000 ((0 : Int32), (0 : Int32)) = some (nI (gmask (failB fail f) n)) := by
  obtain ⟨t, h1, h2⟩ := loop_to (fX6_part_b29 f a (nI n) sorts) (fun i v => v.1 = nI (gmask (failB fail f) i) ∧ v.2 = nI i) (fun t => t = nI (gmask (failB fail f) n)) n (v := ((0 : Int32), (0 : Int32))) (by omega) ⟨rfl, rfl⟩ (by
    rintro i ⟨b1, b2⟩ hi ⟨q1, q2⟩
    dsimp only at q1 q2
    subst q1; subst q2
    unfold fX6_part_b29
    dsimp only
    rw [if_neg (nle hi (by omega)), i3' (by omega), bd_s, (hs i hi).2.2.2.1]
    by_cases c : f < fail i
    · rw [if_pos c, bd_s]
      refine ⟨_, rfl, ?_, nI_1 i⟩
      dsimp only
      rw [gmask, if_neg (by unfold failB; rw [decide_eq_true c]; decide), Nat.add_zero, Int32.or_zero]
    · rw [if_neg c, bd_s]
      refine ⟨_, rfl, ?_, nI_1 i⟩
      dsimp only
      rw [gmask, if_pos (by unfold failB; rw [decide_eq_false c]; rfl), shl1 i (by omega), or_bit (by omega)]) (by
    rintro ⟨b1, b2⟩ ⟨q1, q2⟩
    dsimp only at q1 q2
    subst q1; subst q2
    unfold fX6_part_b29
    dsimp only
    rw [if_pos (by rw [fa_le]; omega)]
    exact ⟨_, rfl, rfl⟩)
  rw [h1, h2]
theorem bit_at : ∀ m, m < 256 → ∀ s, s < 8 → ((((nI m >>> (nI s &&& 31)) &&& 1) = 0) ↔ m.testBit s = false) := by decide +kernel
def twI (has fail : Nat → Int32) (w : Int32) (s : Nat) : Int := 10 * (has s).toInt + (fail s).toInt * w.toInt
theorem tw_i {Q : Stk} (hB : SB Q) {w : Int32} (h1 : 0 ≤ w.toInt) (h2 : w.toInt ≤ 99) {s : Nat} (hs : s < Q.1) : (10 * Q.2.2.1 s + Q.2.2.2.2.1 s * w).toInt = twI Q.2.2.1 Q.2.2.2.2.1 w s ∧ 0 ≤ twI Q.2.2.1 Q.2.2.2.2.1 w s ∧ twI Q.2.2.1 Q.2.2.2.2.1 w s ≤ 1980 := by
  have h := hB.2.1 s hs
  unfold ROne at h
  have y10 : (10 : Int32).toInt = 10 := rfl
  have a1 : ((10 : Int32) * Q.2.2.1 s).toInt = 10 * (Q.2.2.1 s).toInt := by rw [fb_mulI (by rw [y10]; omega) (by rw [y10]; omega), y10]
  have w1 : 0 ≤ (Q.2.2.2.2.1 s).toInt * w.toInt := Int.mul_nonneg (by omega) h1
  have w2 : (Q.2.2.2.2.1 s).toInt * w.toInt ≤ 10 * 99 := Int.mul_le_mul (by omega) h2 h1 (by omega)
  have a2 : (Q.2.2.2.2.1 s * w).toInt = (Q.2.2.2.2.1 s).toInt * w.toInt := fb_mulI (by omega) (by omega)
  unfold twI
  refine ⟨?_, by omega, by omega⟩
  rw [fb_addI (by rw [a1, a2]; omega) (by rw [a1, a2]; omega), a1, a2]
theorem al_1 {Q : Stk} (hB : SB Q) {w p : Int32} (h1 : 0 ≤ w.toInt) (h2 : w.toInt ≤ 99) (hp : VP p) {s : Nat} (hs : s < Q.1) : oAl Q 1 w p s = if twI Q.2.2.1 Q.2.2.2.2.1 w s ≤ 10 * p.toInt then 1 else 0 := by
  obtain ⟨e1, e2, e3⟩ := tw_i hB h1 h2 hs
  obtain ⟨hp1, hp2⟩ := hp
  have y10 : (10 : Int32).toInt = 10 := rfl
  have a1 : ((10 : Int32) * p).toInt = 10 * p.toInt := by rw [fb_mulI (by rw [y10]; omega) (by rw [y10]; omega), y10]
  unfold oAl qAl cwh
  rw [if_neg (by decide), if_pos rfl]
  by_cases c : (10 : Int32) * p < 10 * Q.2.2.1 s + Q.2.2.2.2.1 s * w
  · rw [if_pos c]
    rw [fa_lt, a1, e1] at c
    rw [if_neg (by omega)]
  · rw [if_neg c]
    rw [fa_lt, a1, e1] at c
    rw [if_pos (by omega)]
theorem least5 {Q : Stk} (hB : SB Q) (g : Nat → Bool) {w : Int32} (h1 : 0 ≤ w.toInt) (h2 : w.toInt ≤ 99) : ∃ l : Nat, l ≤ 1000 ∧ fX2_leastForWarrant Q.2.2.1 Q.2.2.2.2.1 (nI Q.1) (nI (gmask g Q.1)) w = some (nI l) ∧ ∀ p : Nat, l ≤ p ↔ ∀ s, s < Q.1 → g s = true → twI Q.2.2.1 Q.2.2.2.2.1 w s ≤ 10 * (p : Int) := by
  have hn := hB.1
  unfold fX2_leastForWarrant
  obtain ⟨t, k1, l, k2, k3, k4⟩ := loop_to (fX2_leastForWarrant_b5 (nI (gmask g Q.1)) w (nI Q.1) Q.2.2.1 Q.2.2.2.2.1) (fun i v => v.2 = nI i ∧ ∃ l : Nat, v.1 = nI l ∧ l ≤ 1000 ∧ ∀ p : Nat, l ≤ p ↔ ∀ s, s < i → g s = true → twI Q.2.2.1 Q.2.2.2.2.1 w s ≤ 10 * (p : Int)) (fun t => ∃ l : Nat, t = nI l ∧ l ≤ 1000 ∧ ∀ p : Nat, l ≤ p ↔ ∀ s, s < Q.1 → g s = true → twI Q.2.2.1 Q.2.2.2.2.1 w s ≤ 10 * (p : Int)) Q.1 (v := ((0 : Int32), (0 : Int32))) (by omega) ⟨rfl, 0, rfl, by omega, fun p => ⟨fun _ s hs => by omega, fun _ => by omega⟩⟩ (by
    rintro i ⟨b1, b2⟩ hi ⟨q1, l, q2, q3, q4⟩
    dsimp only at q1 q2
    subst q1; subst q2
    unfold fX2_leastForWarrant_b5
    dsimp only
    rw [if_neg (nle hi (by omega))]
    have hb := bit_at _ (m256 (g := g) hn) i (by omega)
    rw [gm_bit, decide_eq_true hi, Bool.true_and] at hb
    by_cases c : (nI (gmask g Q.1) >>> (nI i &&& 31)) &&& 1 = 0
    · rw [if_pos c, bd_s]
      have hg := hb.mp c
      refine ⟨_, rfl, nI_1 i, l, rfl, q3, fun p => ?_⟩
      rw [q4 p]
      constructor
      · intro h s hs hgs
        by_cases z : s = i
        · rw [z, hg] at hgs; exact absurd hgs (by decide)
        · exact h s (by omega) hgs
      · intro h s hs hgs
        exact h s (by omega) hgs
    · rw [if_neg c]
      have hg : g i = true := by
        cases q : g i
        · exact absurd (hb.mpr q) c
        · rfl
      unfold fX2_tenthsForWarrant
      rw [ckI_nI (by omega) (by omega), ckI_nI (by omega) (by omega), nI_clamp (by omega), bd_s, bd_s]
      obtain ⟨e1, e2, e3⟩ := tw_i hB h1 h2 hi
      have y9 : (9 : Int32).toInt = 9 := rfl
      have y10 : (10 : Int32).toInt = 10 := rfl
      have e4 : (10 * Q.2.2.1 i + Q.2.2.2.2.1 i * w + 9).toInt = twI Q.2.2.1 Q.2.2.2.2.1 w i + 9 := by rw [fb_addI (by rw [e1, y9]; omega) (by rw [e1, y9]; omega), e1, y9]
      have e5 : ((10 * Q.2.2.1 i + Q.2.2.2.2.1 i * w + 9) / 10).toInt = (twI Q.2.2.1 Q.2.2.2.2.1 w i + 9) / 10 := by
        rw [div32 (by decide), e4, y10, Int.tdiv_eq_ediv_of_nonneg (by omega)]
      have e6 : (10 * Q.2.2.1 i + Q.2.2.2.2.1 i * w + 9) / 10 = nI ((twI Q.2.2.1 Q.2.2.2.2.1 w i + 9) / 10).toNat := eq32 (by rw [e5, nI_toInt (by omega)]; omega)
      rw [e6]
      generalize hX : ((twI Q.2.2.1 Q.2.2.2.2.1 w i + 9) / 10).toNat = X
      have hX2 : X ≤ 1000 := by omega
      have hX3 : ∀ p : Nat, X ≤ p ↔ twI Q.2.2.1 Q.2.2.2.2.1 w i ≤ 10 * (p : Int) := by intro p; omega
      refine ⟨_, rfl, nI_1 i, (if l < X then X else l), ?_, ?_, fun p => ?_⟩
      · dsimp only
        by_cases z : l < X
        · rw [if_pos z, if_pos (by rw [fa_lt, nI_toInt (by omega), nI_toInt (by omega)]; omega)]
        · rw [if_neg z, if_neg (by rw [fa_lt, nI_toInt (by omega), nI_toInt (by omega)]; omega)]
      · split <;> omega
      · have : (if l < X then X else l) ≤ p ↔ l ≤ p ∧ X ≤ p := by
          split <;> omega
        rw [this, q4 p, hX3 p]
        constructor
        · rintro ⟨a, b⟩ s hs hgs
          by_cases z : s = i
          · rw [z]; exact b
          · exact a s (by omega) hgs
        · intro h
          exact ⟨fun s hs hgs => h s (by omega) hgs, h i (by omega) hg⟩) (by
    rintro ⟨b1, b2⟩ ⟨q1, l, q2, q3, q4⟩
    dsimp only at q1 q2
    subst q1; subst q2
    unfold fX2_leastForWarrant_b5
    dsimp only
    rw [if_pos (by rw [fa_le]; omega)]
    exact ⟨_, rfl, l, rfl, q3, q4⟩)
  refine ⟨l, k3, ?_, k4⟩
  rw [k1, bd_s, k2]
def Prt (Q : Stk) (w W : Int32) (p : Nat) : Prop := rB Q 1 w (nI p) = true ∧ oWhole Q 1 w (nI p) = W
/-- the least price will do -/
theorem part_least {Q : Stk} (hB : SB Q) (g : Nat → Bool) {w : Int32} (h1 : 0 ≤ w.toInt) (h2 : w.toInt ≤ 99) {l : Nat} (hl : ∀ p : Nat, l ≤ p ↔ ∀ s, s < Q.1 → g s = true → twI Q.2.2.1 Q.2.2.2.2.1 w s ≤ 10 * (p : Int)) {p : Nat} (hp : p < 100) (h : Prt Q w (nI (gmask g Q.1)) p) : l ≤ p ∧ Prt Q w (nI (gmask g Q.1)) l := by
  obtain ⟨a1, a2⟩ := h
  have hn := hB.1
  have hw := (wh_eq hn g).mp a2
  have ep := nI_toInt (n := p) (by omega)
  have hk : VO (1 : Int32) w := ⟨by decide, by decide, h1, h2, fun q => absurd q (by decide)⟩
  have hw' : ∀ s, s < Q.1 → (g s = true ↔ twI Q.2.2.1 Q.2.2.2.2.1 w s ≤ 10 * (p : Int)) := by
    intro s hs
    rw [hw s hs, al_1 hB h1 h2 (vp_nI hp) hs, ep]
    by_cases c : twI Q.2.2.1 Q.2.2.2.2.1 w s ≤ 10 * (p : Int)
    · rw [if_pos c]; exact ⟨fun _ => c, fun _ => by decide⟩
    · rw [if_neg c]; exact ⟨fun q => absurd rfl q, fun q => absurd q c⟩
  have hlp : l ≤ p := (hl p).mpr (fun s hs hgs => (hw' s hs).mp hgs)
  have el := nI_toInt (n := l) (by omega)
  have hw2 : ∀ s, s < Q.1 → (twI Q.2.2.1 Q.2.2.2.2.1 w s ≤ 10 * (l : Int) ↔ twI Q.2.2.1 Q.2.2.2.2.1 w s ≤ 10 * (p : Int)) := by
    intro s hs
    constructor
    · intro q; omega
    · intro q
      exact (hl l).mp (Nat.le_refl l) s hs ((hw' s hs).mpr q)
  have ea : ∀ s, s < Q.1 → oAl Q 1 w (nI l) s = oAl Q 1 w (nI p) s := by
    intro s hs
    rw [al_1 hB h1 h2 (vp_nI (show l < 100 by omega)) hs, al_1 hB h1 h2 (vp_nI hp) hs, ep, el]
    by_cases c : twI Q.2.2.1 Q.2.2.2.2.1 w s ≤ 10 * (p : Int)
    · rw [if_pos c, if_pos ((hw2 s hs).mpr c)]
    · rw [if_neg c, if_neg (fun q => c ((hw2 s hs).mp q))]
  have eco : ∀ p s, oCo Q 1 w p s = comeI 1 (oAl Q 1 w p s) (Q.2.1 s) (Q.2.2.2.2.2.1 s) := fun _ _ => rfl
  have esa : ∀ p s, oSa Q 1 w p s = oCo Q 1 w p s * oneI 1 w (Q.2.2.2.1 s) (Q.2.2.2.2.1 s) Q.2.2.2.2.2.2.1 Q.2.2.2.2.2.2.2.1 := fun _ _ => rfl
  have es : ∀ s, s < Q.1 → oSa Q 1 w (nI l) s = oSa Q 1 w (nI p) s := by
    intro s hs
    rw [esa, esa, eco, eco, ea s hs]
  have epa : oParts Q 1 w (nI l) = oParts Q 1 w (nI p) := bx_cong es
  have ete : oTenths Q 1 w (nI l) = oTenths Q 1 w (nI p) := by
    unfold oTenths
    rw [if_neg (by decide), if_neg (by decide)]
    exact bx_cong (fun s hs => by rw [es s hs])
  have ewh : oWhole Q 1 w (nI l) = oWhole Q 1 w (nI p) := wh_cong ea
  refine ⟨hlp, ?_, by rw [ewh, a2]⟩
  rw [rB_iff] at a1 ⊢
  rw [epa, ete, el]
  rw [ep] at a1
  refine ⟨a1.1, Int.le_trans ?_ a1.2⟩
  exact Int.mul_le_mul_of_nonneg_right (by omega) (by omega)
theorem part6_in {n : Nat} {sorts rules many has would fail must : Nat → Int32} {mark look pay : Int32} (hS : SS n sorts many has would fail must) (hB : SB (n, many, has, would, fail, must, mark, look, pay)) (r0 : rules 0 = mark) (r1 : rules 1 = look) (r2 : rules 2 = pay) {w : Int32} (hk : VO 1 w) (a2 W : Int32) (g1 g2 g3 : Int64) (c0 s0 : Nat → Int32) (x1 x2 x3 : Int32) :
    ∃ t, loopF (fX6_part_b83 a2 W w sorts rules (nI n) (-4)) 1000 ((0 : Int32), g1, g2, g3, c0, s0, x1, x2, x3) = some t ∧ ((∃ z p, t = .inl z ∧ z.1 = (if a2 = 0 then w else nI p) ∧ p < 100 ∧ Prt (n, many, has, would, fail, must, mark, look, pay) w W p ∧ ∀ q, q < p → ¬ Prt (n, many, has, would, fail, must, mark, look, pay) w W q) ∨ (∃ e, t = .inr e ∧ ∀ p, p < 100 → ¬ Prt (n, many, has, would, fail, must, mark, look, pay) w W p)) := by
  refine loop_ot _ (fun i v => v.1 = nI i ∧ ∀ q, q < i → ¬ Prt (n, many, has, would, fail, must, mark, look, pay) w W q) _ 100 (by omega) ⟨rfl, fun q h => by omega⟩ ?_ ?_
  · rintro i ⟨b1, y1, y2, y3, y4, y5, y6, y7, y8⟩ hi ⟨q1, q2⟩
    dsimp only at q1
    subst q1
    have hp := vp_nI hi
    have hc : ¬ (100 : Int32) ≤ nI i := nle (n := 100) hi (by omega)
    obtain ⟨tu, td, gl, cm, so, g2, -⟩ := rest6 hS hB r0 r1 r2 y4 y5 hk hp
    have more : ¬ Prt (n, many, has, would, fail, must, mark, look, pay) w W i → ∀ q, q < i + 1 → ¬ Prt (n, many, has, would, fail, must, mark, look, pay) w W q := by
      intro h q hq
      by_cases z : q = i
      · rw [z]; exact h
      · exact q2 q (by omega)
    unfold fX6_part_b83
    dsimp only
    rw [if_neg hc, g2, bd_s]
    dsimp only
    by_cases r : rB (n, many, has, would, fail, must, mark, look, pay) 1 w (nI i) = true
    · simp only [if_pos r, one0, ite_false]
      by_cases c : oWhole (n, many, has, would, fail, must, mark, look, pay) 1 w (nI i) = W
      · rw [if_pos c]
        refine Or.inr ?_
        by_cases k0 : a2 = 0
        · rw [if_pos k0]
          exact ⟨_, rfl, Or.inl ⟨_, i, rfl, by rw [if_pos k0], hi, ⟨r, c⟩, q2⟩⟩
        · rw [if_neg k0]
          exact ⟨_, rfl, Or.inl ⟨_, i, rfl, by rw [if_neg k0], hi, ⟨r, c⟩, q2⟩⟩
      · rw [if_neg c]
        exact Or.inl ⟨_, rfl, nI_1 i, more (fun q => c q.2)⟩
    · simp only [if_neg r, ite_true]
      exact Or.inl ⟨_, rfl, nI_1 i, more (fun q => r q.1)⟩
  · rintro ⟨b1, y1, y2, y3, y4, y5, y6, y7, y8⟩ ⟨q1, q2⟩
    dsimp only at q1
    subst q1
    unfold fX6_part_b83
    dsimp only
    rw [if_pos (show (100 : Int32) ≤ nI 100 by decide)]
    exact ⟨_, rfl, Or.inr ⟨_, rfl, q2⟩⟩
end PartM
