section FallD
/-- the price behind a step -/
def nx (Q : Stk) (k w p : Int32) : Int32 := if 0 < (oTenths Q k w p).toInt then nI ((oTenths Q k w p).toInt / (10 * (oParts Q k w p).toInt)).toNat else 0
def stp (Q : Stk) (k w p : Int32) : Prop := (oParts Q k w p).toInt ≤ 0 ∨ rB Q k w p = true ∨ p.toInt = 0
def pr (Q : Stk) (k w p : Int32) : Nat → Int32
  | 0 => p
  | i + 1 => nx Q k w (pr Q k w p i)
theorem pr_sh (Q : Stk) (k w p : Int32) : ∀ i, pr Q k w p (i + 1) = pr Q k w (nx Q k w p) i
  | 0 => rfl
  | i + 1 => by rw [pr, pr_sh Q k w p i, pr]
theorem eq32 {a b : Int32} (h : a.toInt = b.toInt) : a = b := Int32.toInt_inj.mp h
theorem nx_i {Q : Stk} {k w p : Int32} (h0 : 0 < (oParts Q k w p).toInt) (hp : VP p) (hr : ¬ rB Q k w p = true) (hp0 : ¬ p.toInt = 0) : (nx Q k w p).toInt = (if 0 ≤ (oTenths Q k w p).toInt then (oTenths Q k w p).toInt / (10 * (oParts Q k w p).toInt) else 0) ∧ 0 ≤ (nx Q k w p).toInt ∧ (nx Q k w p).toInt < p.toInt := by
  have hp := hp
  obtain ⟨hp1, hp2⟩ := hp
  rw [rB_iff] at hr
  have hr' : (oTenths Q k w p).toInt < p.toInt * (10 * (oParts Q k w p).toInt) := by
    rcases Int.lt_or_le (oTenths Q k w p).toInt (p.toInt * (10 * (oParts Q k w p).toInt)) with h | h
    · exact h
    · exact absurd ⟨h0, h⟩ hr
  unfold nx
  by_cases c : 0 < (oTenths Q k w p).toInt
  · rw [if_pos c, if_pos (by omega)]
    have h1 : (oTenths Q k w p).toInt / (10 * (oParts Q k w p).toInt) < p.toInt := Int.ediv_lt_of_lt_mul (by omega) hr'
    have h2 : 0 ≤ (oTenths Q k w p).toInt / (10 * (oParts Q k w p).toInt) := Int.ediv_nonneg (by omega) (by omega)
    rw [nI_toInt (by omega), Int.toNat_of_nonneg h2]
    exact ⟨rfl, h2, h1⟩
  · rw [if_neg c]
    have y : (0 : Int32).toInt = 0 := rfl
    rw [y]
    refine ⟨?_, by omega, by omega⟩
    split
    · rw [show (oTenths Q k w p).toInt = 0 by omega, Int.zero_ediv]
    · rfl
theorem fall_L {Q : Stk} {k w : Int32} : ∀ (m : Nat) (p : Int32), VP p → p.toInt ≤ (m : Int) → ∃ L, L ≤ m ∧ (∀ i, i < L → ¬ stp Q k w (pr Q k w p i)) ∧ stp Q k w (pr Q k w p L) ∧ ∀ i, i ≤ L → VP (pr Q k w p i)
  | 0, p, hp, h => ⟨0, by omega, fun i hi => by omega, Or.inr (Or.inr (by have := hp.1; show p.toInt = 0; omega)), fun i hi => by rw [show i = 0 by omega]; exact hp⟩
  | m + 1, p, hp, h => by
    by_cases c : stp Q k w p
    · exact ⟨0, by omega, fun i hi => by omega, c, fun i hi => by rw [show i = 0 by omega]; exact hp⟩
    · have c' := c
      unfold stp at c'
      have c1 : 0 < (oParts Q k w p).toInt := by
        rcases Int.lt_or_le 0 (oParts Q k w p).toInt with h | h
        · exact h
        · exact absurd (Or.inl h) c'
      have c2 : ¬ rB Q k w p = true := fun q => c' (Or.inr (Or.inl q))
      have c3 : ¬ p.toInt = 0 := fun q => c' (Or.inr (Or.inr q))
      obtain ⟨-, n1, n2⟩ := nx_i c1 hp c2 c3
      have hp' := hp.2
      obtain ⟨L, g1, g2, g3, g4⟩ := fall_L m (nx Q k w p) ⟨n1, by omega⟩ (by omega)
      refine ⟨L + 1, by omega, ?_, ?_, ?_⟩
      · intro i hi
        cases i with
        | zero => exact c
        | succ i => rw [pr_sh]; exact g2 i (by omega)
      · rw [pr_sh]; exact g3
      · intro i hi
        cases i with
        | zero => exact hp
        | succ i => rw [pr_sh]; exact g4 i (by omega)
theorem behind {Q : Stk} (hB : SB Q) {k w p : Int32} (hk : VO k w) (hp : VP p) :
    (stp Q k w p → fX4_priceBehind (oParts Q k w p) (oTenths Q k w p) p = some p) ∧ (¬ stp Q k w p → ¬ nx Q k w p = p ∧ fX4_priceBehind (oParts Q k w p) (oTenths Q k w p) p = some (nx Q k w p)) := by
  have y0 : (0 : Int32).toInt = 0 := rfl
  obtain ⟨hp1, hp2⟩ := id hp
  by_cases c1 : oParts Q k w p ≤ 0
  · have c2 := c1
    rw [fa_le, y0] at c2
    refine ⟨fun _ => ?_, fun q => absurd (Or.inl c2) q⟩
    unfold fX4_priceBehind
    rw [if_pos c1]
  · have c2 := c1
    rw [fa_le, y0] at c2
    have sh := shares_i hB (p := p) hk
    unfold fX4_priceBehind
    rw [if_neg c1, holds5 hB hk hp, bd_s]
    by_cases r : rB Q k w p = true
    · simp only [if_pos r, one0, ite_false]
      exact ⟨fun _ => trivial, fun q => absurd (Or.inr (Or.inl r)) q⟩
    · simp only [if_neg r, ite_true]
      unfold fX4_thoughtDown fX4_shares
      rw [if_neg c1, bd_s]
      have tb := tenths_b hB (p := p) hk
      have hr := r
      rw [rB_iff] at hr
      have hr' : (oTenths Q k w p).toInt < p.toInt * (10 * (oParts Q k w p).toInt) := by
        rcases Int.lt_or_le (oTenths Q k w p).toInt (p.toInt * (10 * (oParts Q k w p).toInt)) with h | h
        · exact h
        · exact absurd ⟨by omega, h⟩ hr
      rcases Int.lt_or_le (oTenths Q k w p).toInt 0 with n | n
      · obtain ⟨q, f1, f2⟩ := fdiv_neg n (by omega) (show 0 < ((10 : Int32) * oParts Q k w p).toInt by rw [sh]; omega)
        rw [f1, bd_s, bd_s, if_neg (by rw [fa_lt, y0]; omega)]
        have e : nx Q k w p = 0 := by unfold nx; rw [if_neg (by omega)]
        refine ⟨fun s => ?_, fun s => ?_⟩
        · rcases s with s | s | s
          · exact absurd s c2
          · exact absurd s r
          · congr 1
            exact eq32 (by rw [y0, s])
        · rw [e]
          refine ⟨fun q => s (Or.inr (Or.inr (by rw [← q]; rfl))), rfl⟩
      · obtain ⟨q, f1, f2⟩ := fdiv_nn n (show 0 < ((10 : Int32) * oParts Q k w p).toInt by rw [sh]; omega)
        rw [sh] at f2
        have p0 : ¬ p.toInt = 0 := by intro z; rw [z] at hr'; omega
        obtain ⟨x1, x2, x3⟩ := nx_i (by omega) hp r p0
        rw [if_pos n, ← f2] at x1
        have e := eq32 x1
        refine ⟨fun s => ?_, fun s => ⟨?_, ?_⟩⟩
        · rcases s with s | s | s
          · exact absurd s c2
          · exact absurd s r
          · exact absurd s p0
        · intro z; rw [z] at x3; omega
        · rw [f1, bd_s, bd_s, ← e]
          by_cases z : 0 < nx Q k w p
          · rw [if_pos z]
          · rw [if_neg z]
            congr 1
            rw [fa_lt, y0] at z
            exact eq32 (by rw [y0]; omega)
end FallD
