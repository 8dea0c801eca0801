section MaskH
theorem gm_bit (g : Nat → Bool) : ∀ (n s : Nat), (gmask g n).testBit s = (decide (s < n) && g s)
  | 0, s => by rw [gmask, Nat.zero_testBit, decide_eq_false (by omega)]; rfl
  | n + 1, s => by
    have h := gm_bit g n s
    have hl := gmask_lt g n
    rw [gmask]
    by_cases c : g n = true
    · rw [if_pos c, Nat.add_comm]
      rcases Nat.lt_trichotomy s n with z | z | z
      · rw [Nat.testBit_two_pow_add_gt z, h, decide_eq_true z, decide_eq_true (by omega)]
      · subst z
        rw [Nat.testBit_two_pow_add_eq, h, decide_eq_false (by omega), decide_eq_true (by omega), c]; rfl
      · rw [Nat.testBit_lt_two_pow, decide_eq_false (by omega)]; rfl
        have e1 : 2 ^ n + gmask g n < 2 ^ (n + 1) := by rw [Nat.pow_succ]; omega
        exact Nat.lt_of_lt_of_le e1 (Nat.pow_le_pow_right (by omega) z)
    · rw [if_neg c, Nat.add_zero, h]
      by_cases z : s = n
      · subst z
        have c' : g s = false := by cases q : g s; rfl; exact absurd q c
        rw [c', Bool.and_false, Bool.and_false]
      · by_cases y : s < n
        · rw [decide_eq_true y, decide_eq_true (by omega)]
        · rw [decide_eq_false y, decide_eq_false (by omega)]
theorem wh_mask (al : Nat → Int32) : ∀ n, n ≤ 8 → qWh al n = nI (gmask (fun s => !decide (al s = 0)) n)
  | 0, _ => rfl
  | n + 1, h => by
    rw [qWh, wh_mask al n (by omega), gmask, qBit]
    by_cases c : al n = 0
    · rw [if_pos c, if_neg (by rw [decide_eq_true c]; decide), Nat.add_zero, Int32.or_zero]
    · rw [if_neg c, if_pos (by rw [decide_eq_false c]; rfl), shl1 n (by omega), or_bit (by omega)]
theorem and_not (a b : Int32) : a &&& (b ^^^ -1) = 0 ↔ b &&& a = a := by
  have e1 : (b ^^^ (-1 : Int32)).toBitVec = ~~~ b.toBitVec := by
    show b.toBitVec ^^^ BitVec.allOnes 32 = _
    rw [BitVec.xor_allOnes]
  rw [← Int32.toBitVec_inj, ← Int32.toBitVec_inj, Int32.toBitVec_and, Int32.toBitVec_and, e1]
  generalize a.toBitVec = x
  generalize b.toBitVec = y
  show x &&& ~~~ y = 0#32 ↔ _
  constructor
  · intro h
    apply BitVec.eq_of_getLsbD_eq
    intro i hi
    have := congrArg (fun z => z.getLsbD i) h
    simp only [BitVec.getLsbD_and, BitVec.getLsbD_not, BitVec.getLsbD_zero, hi, decide_true, Bool.true_and] at this ⊢
    revert this
    cases x.getLsbD i <;> cases y.getLsbD i <;> decide
  · intro h
    apply BitVec.eq_of_getLsbD_eq
    intro i hi
    have := congrArg (fun z => z.getLsbD i) h
    simp only [BitVec.getLsbD_and, BitVec.getLsbD_not, BitVec.getLsbD_zero, hi, decide_true, Bool.true_and] at this ⊢
    revert this
    cases x.getLsbD i <;> cases y.getLsbD i <;> decide
theorem inj_nI {a b : Nat} (ha : a < 2 ^ 31) (hb : b < 2 ^ 31) (h : nI a = nI b) : a = b := by
  have e1 := nI_toInt (n := a) ha
  have e2 := nI_toInt (n := b) hb
  rw [h] at e1
  omega
theorem brings {w a : Nat} (hw : w < 256) (ha : a < 256) : nI w &&& nI a = nI a ↔ ∀ s, a.testBit s = true → w.testBit s = true := by
  rw [fa_and]
  have hl : w &&& a ≤ a := Nat.and_le_right
  constructor
  · intro h s hs
    have h' := inj_nI (by omega) (by omega) h
    rw [← h', Nat.testBit_and] at hs
    cases q : w.testBit s
    · rw [q, Bool.false_and] at hs; exact absurd hs (by decide)
    · rfl
  · intro h
    congr 1
    apply Nat.eq_of_testBit_eq
    intro i
    rw [Nat.testBit_and]
    have := h i
    cases q : a.testBit i
    · rw [Bool.and_false]
    · rw [this q]; rfl
/-- all of these come whole -/
theorem wh_all {Q : Stk} (hn : Q.1 ≤ 8) {k w p : Int32} (g : Nat → Bool) : oWhole Q k w p &&& nI (gmask g Q.1) = nI (gmask g Q.1) ↔ ∀ s, s < Q.1 → g s = true → ¬ oAl Q k w p s = 0 := by
  unfold oWhole
  rw [wh_mask _ _ hn, brings (m256 hn) (m256 hn)]
  constructor
  · intro h s hs hg
    have := h s (by rw [gm_bit, decide_eq_true hs, hg]; rfl)
    rw [gm_bit, decide_eq_true hs] at this
    intro q
    rw [q] at this
    exact absurd this (by decide)
  · intro h s hs
    rw [gm_bit] at hs
    have h1 : s < Q.1 := by
      by_cases z : s < Q.1
      · exact z
      · rw [decide_eq_false z, Bool.false_and] at hs; exact absurd hs (by decide)
    rw [decide_eq_true h1] at hs
    rw [gm_bit, decide_eq_true h1, decide_eq_false (h s h1 (by simpa using hs))]
    rfl
theorem wh_eq {Q : Stk} (hn : Q.1 ≤ 8) {k w p : Int32} (g : Nat → Bool) : oWhole Q k w p = nI (gmask g Q.1) ↔ ∀ s, s < Q.1 → (g s = true ↔ ¬ oAl Q k w p s = 0) := by
  unfold oWhole
  rw [wh_mask _ _ hn]
  have h1 := m256 (g := fun s => !decide (oAl Q k w p s = 0)) hn
  have h2 := m256 (g := g) hn
  constructor
  · intro h s hs
    have h' := congrArg (fun z => Nat.testBit z s) (inj_nI (by omega) (by omega) h)
    rw [gm_bit, gm_bit, decide_eq_true hs, Bool.true_and, Bool.true_and] at h'
    rw [← h']
    simp
  · intro h
    congr 1
    apply Nat.eq_of_testBit_eq
    intro i
    rw [gm_bit, gm_bit]
    by_cases z : i < Q.1
    · rw [decide_eq_true z, Bool.true_and, Bool.true_and]
      have := h i z
      by_cases c : oAl Q k w p i = 0
      · rw [decide_eq_true c]
        cases q : g i
        · rfl
        · exact absurd c (this.mp q)
      · rw [decide_eq_false c, this.mpr c]; rfl
    · rw [decide_eq_false z, Bool.false_and, Bool.false_and]
theorem wh_one {Q : Stk} (hn : Q.1 ≤ 8) {k w p : Int32} {s : Nat} (hs : s < Q.1) : oWhole Q k w p &&& (1 : Int32) <<< (nI s &&& 31) = (1 : Int32) <<< (nI s &&& 31) ↔ ¬ oAl Q k w p s = 0 := by
  rw [shl1 s (by omega)]
  have e : ∀ s, s < 8 → 2 ^ s < 256 := by decide
  have e' := e s (by omega)
  unfold oWhole
  rw [wh_mask _ _ hn, brings (m256 hn) e']
  constructor
  · intro h
    have := h s (by rw [Nat.testBit_two_pow_self])
    rw [gm_bit, decide_eq_true hs] at this
    intro q
    rw [q] at this
    exact absurd this (by decide)
  · intro h i hi
    rw [Nat.testBit_two_pow] at hi
    have : s = i := of_decide_eq_true hi
    subst this
    rw [gm_bit, decide_eq_true hs, decide_eq_false h]
    rfl
/-- the first of a row of numbers at which something holds; -4 -/
def Lst (M : Nat → Prop) (lo hi : Nat) (x : Int32) : Prop := (x = -4 ∧ ∀ j, lo ≤ j → j < hi → ¬ M j) ∨ ∃ j, lo ≤ j ∧ j < hi ∧ x = nI j ∧ M j ∧ ∀ i, lo ≤ i → i < j → ¬ M i
theorem Lst_yes {M : Nat → Prop} {lo hi : Nat} (h0 : lo < hi) (h : M lo) : Lst M lo hi (nI lo) := Or.inr ⟨lo, by omega, h0, rfl, h, fun i a b => by omega⟩
theorem Lst_no {M : Nat → Prop} {lo hi : Nat} {x : Int32} (h : Lst M (lo + 1) hi x) (hM : ¬ M lo) : Lst M lo hi x := by
  rcases h with ⟨a, b⟩ | ⟨j, a, b, c, d, e⟩
  · refine Or.inl ⟨a, fun j h1 h2 => ?_⟩
    by_cases z : j = lo
    · rw [z]; exact hM
    · exact b j (by omega) h2
  · refine Or.inr ⟨j, by omega, b, c, d, fun i h1 h2 => ?_⟩
    by_cases z : i = lo
    · rw [z]; exact hM
    · exact e i (by omega) h2
theorem Lst_eq {M : Nat → Prop} {lo hi : Nat} {x y : Int32} (h : Lst M lo hi x) (h' : Lst M lo hi y) : x = y := by
  rcases h with ⟨a, b⟩ | ⟨j, a, b, c, d, e⟩
  · rcases h' with ⟨a', b'⟩ | ⟨j', a', b', c', d', e'⟩
    · rw [a, a']
    · exact absurd d' (b j' a' b')
  · rcases h' with ⟨a', b'⟩ | ⟨j', a', b', c', d', e'⟩
    · exact absurd d (b' j a b)
    · have : j = j' := by
        rcases Nat.lt_trichotomy j j' with z | z | z
        · exact absurd d (e' j a z)
        · exact z
        · exact absurd d' (e j' a' z)
      rw [c, c', this]
/-- what goesOn needs of doesRest -/
def RestsW (sorts rules : Nat → Int32) (n : Nat) (Q : Stk) (k : Int32) : Prop := ∀ (c0 s0 : Nat → Int32) (p : Int32), VP p → ∃ tu td gl cm so ho, fX6_doesRest sorts rules c0 s0 (nI n) (-4) k 0 p = some (if rB Q k 0 p then 1 else 0, tu, td, gl, cm, so, oWhole Q k 0 p, ho, oParts Q k 0 p)
theorem rests_w {n : Nat} {sorts rules many has would fail must : Nat → Int32} {mark look pay : Int32} (hS : SS n sorts many has would fail must) (hB : SB (n, many, has, would, fail, must, mark, look, pay)) (r0 : rules 0 = mark) (r1 : rules 1 = look) (r2 : rules 2 = pay) {k : Int32} (hk : VO k 0) : RestsW sorts rules n (n, many, has, would, fail, must, mark, look, pay) k := by
  intro c0 s0 p hp
  obtain ⟨tu, td, gl, cm, so, h1, h2, h3, h4, h5⟩ := rest6 hS hB r0 r1 r2 c0 s0 hk hp
  exact ⟨tu, td, gl, cm, so, _, h1⟩
def GoOn (Q : Stk) (k a : Int32) (f i : Nat) : Prop := ∃ p, f ≤ p ∧ p < i ∧ rB Q k 0 (nI p) = true ∧ oWhole Q k 0 (nI p) &&& a = a
theorem goes6 {sorts rules : Nat → Int32} {n : Nat} {Q : Stk} {k : Int32} (hD : RestsW sorts rules n Q k) {f : Nat} (hf : f ≤ 100) (a : Int32) (g1 g2 g3 : Int64) (c0 s0 : Nat → Int32) (x1 x2 x3 : Int32) :
    ∃ b T, fX6_goesOn g1 g2 g3 sorts rules c0 s0 (nI n) (-4) x1 x2 x3 k (nI f) a = some (b, T) ∧ (¬ b = 0 ↔ ¬ a = 0 ∧ GoOn Q k a f 100) := by
  unfold fX6_goesOn
  by_cases a0 : a = 0
  · obtain ⟨t, h1, h2⟩ := loop_ot (fX6_goesOn_b6 k a sorts rules (nI n) (-4)) (fun i v => v.1 = 0) (fun t => t.1 = 0) 0 (v := ((0 : Int32), nI f, g1, g2, g3, c0, s0, x1, x2, x3)) (by omega) rfl (by intro k v h; omega) (by
      rintro ⟨b1, b2, y1, y2, y3, y4, y5, y6, y7, y8⟩ q1
      dsimp only at q1
      unfold fX6_goesOn_b6
      dsimp only
      rw [if_pos a0]
      split <;> exact ⟨_, rfl, q1⟩)
    obtain ⟨t1, T⟩ := t
    dsimp only at h2
    subst h2
    rw [h1, bd_s, ckB_0]
    exact ⟨_, _, rfl, ⟨fun h => absurd rfl h, fun h => absurd a0 h.1⟩⟩
  · obtain ⟨t, h1, h2⟩ := loop_to (fX6_goesOn_b6 k a sorts rules (nI n) (-4)) (fun i v => v.2.1 = nI (f + i) ∧ (v.1 = 0 ∨ v.1 = 1) ∧ (¬ v.1 = 0 ↔ GoOn Q k a f (f + i))) (fun t => (t.1 = 0 ∨ t.1 = 1) ∧ (¬ t.1 = 0 ↔ GoOn Q k a f 100)) (100 - f) (v := ((0 : Int32), nI f, g1, g2, g3, c0, s0, x1, x2, x3)) (by omega) ⟨rfl, Or.inl rfl, ⟨fun h => absurd rfl h, fun ⟨p, h1, h2, _⟩ => by omega⟩⟩ (by
      rintro i ⟨b1, b2, y1, y2, y3, y4, y5, y6, y7, y8⟩ hi ⟨q1, q2, q3⟩
      dsimp only at q1 q2 q3
      subst q1
      have hp := vp_nI (i := f + i) (by omega)
      have hc : ¬ (100 : Int32) ≤ nI (f + i) := nle (n := 100) (by omega) (by omega)
      have more : GoOn Q k a f (f + i + 1) ↔ GoOn Q k a f (f + i) ∨ (rB Q k 0 (nI (f + i)) = true ∧ oWhole Q k 0 (nI (f + i)) &&& a = a) := by
        constructor
        · rintro ⟨p, h1, h2, h3⟩
          by_cases z : p = f + i
          · rw [z] at h3; exact Or.inr h3
          · exact Or.inl ⟨p, h1, by omega, h3⟩
        · rintro (⟨p, h1, h2, h3⟩ | h)
          · exact ⟨p, h1, by omega, h3⟩
          · exact ⟨f + i, by omega, by omega, h⟩
      unfold fX6_goesOn_b6
      dsimp only
      rw [if_neg hc, if_neg a0]
      by_cases c : b1 = 0
      · rw [if_pos c]
        obtain ⟨tu, td, gl, cm, so, ho, e1⟩ := hD y4 y5 _ hp
        rw [e1, bd_s]
        dsimp only
        have no : ¬ GoOn Q k a f (f + i) := fun q => q3.mpr q c
        by_cases r : rB Q k 0 (nI (f + i)) = true
        · simp only [if_pos r, one0, ite_false]
          by_cases d : a &&& (oWhole Q k 0 (nI (f + i)) ^^^ -1) = 0
          · rw [if_pos d, bd_s]
            exact ⟨_, rfl, nI_1 _, Or.inr rfl, ⟨fun _ => more.mpr (Or.inr ⟨r, (and_not _ _).mp d⟩), fun _ => (show ¬ (1 : Int32) = 0 by decide)⟩⟩
          · rw [if_neg d, bd_s]
            refine ⟨_, rfl, nI_1 _, Or.inl rfl, ⟨fun q => absurd rfl q, fun q => ?_⟩⟩
            rcases more.mp q with q | q
            · exact absurd q no
            · exact absurd ((and_not _ _).mpr q.2) d
        · simp only [if_neg r, ite_true, bd_s]
          refine ⟨_, rfl, nI_1 _, Or.inl rfl, ⟨fun q => absurd rfl q, fun q => ?_⟩⟩
          rcases more.mp q with q | q
          · exact absurd q no
          · exact absurd q.1 r
      · rw [if_neg c, bd_s]
        exact ⟨_, rfl, nI_1 _, Or.inr rfl, ⟨fun _ => more.mpr (Or.inl (q3.mp c)), fun _ => (show ¬ (1 : Int32) = 0 by decide)⟩⟩) (by
      rintro ⟨b1, b2, y1, y2, y3, y4, y5, y6, y7, y8⟩ ⟨q1, q2, q3⟩
      dsimp only at q1 q2 q3
      have e : f + (100 - f) = 100 := by omega
      rw [e] at q1 q3
      subst q1
      unfold fX6_goesOn_b6
      dsimp only
      rw [if_pos (show (100 : Int32) ≤ nI 100 by decide)]
      exact ⟨_, rfl, q2, q3⟩)
    obtain ⟨t1, T⟩ := t
    dsimp only at h2
    rw [h1, bd_s, ckB_ok h2.1]
    exact ⟨_, _, rfl, ⟨fun h => ⟨a0, h2.2.mp h⟩, fun h => h2.2.mpr h.2⟩⟩
end MaskH
