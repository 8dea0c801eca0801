section GcdF
theorem rem_ok {a b : Nat} (ha : a < 2 ^ 31) (hb : b < 2 ^ 31) (h0 : 0 < b) : nI a - nI a / nI b * nI b = nI (a % b) := by
  have e1 := nI_toInt (n := a) ha
  have e2 := nI_toInt (n := b) hb
  have d : (nI a / nI b).toInt = ((a / b : Nat) : Int) := by
    rw [div32 (by omega), e1, e2, Int.tdiv_eq_ediv_of_nonneg (by omega), Int.natCast_ediv]
  have hm : a / b * b ≤ a := Nat.div_mul_le_self a b
  have hr : a % b = a - a / b * b := by
    have := Nat.div_add_mod a b
    rw [Nat.mul_comm] at this
    omega
  have m : (nI a / nI b * nI b).toInt = ((a / b * b : Nat) : Int) := by
    have z : (nI a / nI b).toInt * (nI b).toInt = ((a / b * b : Nat) : Int) := by rw [d, e2, Int.natCast_mul]
    rw [fb_mulI (by rw [z]; omega) (by rw [z]; omega), z]
  refine eq32 ?_
  have hlt : a % b < b := Nat.mod_lt a h0
  rw [fb_subI (by rw [m, e1]; omega) (by rw [m, e1]; omega), m, e1, nI_toInt (by omega)]
  omega
theorem rem_okL {A B : Int64} {a b : Nat} (ha : a < 2 ^ 31) (hb : b < 2 ^ 31) (h0 : 0 < b) (e1 : A.toInt = (a : Int)) (e2 : B.toInt = (b : Int)) : (A - A / B * B).toInt = ((a % b : Nat) : Int) := by
  have d : (A / B).toInt = ((a / b : Nat) : Int) := by
    rw [div64 (by omega), e1, e2, Int.tdiv_eq_ediv_of_nonneg (by omega), Int.natCast_ediv]
  have hm : a / b * b ≤ a := Nat.div_mul_le_self a b
  have hr : a % b = a - a / b * b := by
    have := Nat.div_add_mod a b
    rw [Nat.mul_comm] at this
    omega
  have m : (A / B * B).toInt = ((a / b * b : Nat) : Int) := by
    have z : (A / B).toInt * B.toInt = ((a / b * b : Nat) : Int) := by rw [d, e2, Int.natCast_mul]
    rw [fb_mulL (by rw [z]; omega) (by rw [z]; omega), z]
  rw [fb_subL (by rw [m, e1]; omega) (by rw [m, e1]; omega), m, e1]
  omega
def eP (i a b : Nat) : Prop := (i = 0 ∧ 0 < b ∧ a * b < 2 ^ 52) ∨ (1 ≤ i ∧ b < a ∧ a * b * 2 ^ (i - 1) < 2 ^ 52)
theorem eP_step {i a b : Nat} (h : eP i a b) (h0 : 0 < b) : eP (i + 1) b (a % b) := by
  have hlt : a % b < b := Nat.mod_lt a h0
  have hle : a % b ≤ a := Nat.mod_le a b
  refine Or.inr ⟨by omega, hlt, ?_⟩
  rcases h with ⟨rfl, -, h⟩ | ⟨h1, h2, h3⟩
  · rw [show (0 + 1 - 1) = 0 from rfl, Nat.pow_zero, Nat.mul_one]
    have := Nat.mul_le_mul_left b hle
    rw [Nat.mul_comm b a] at this
    omega
  · have h4 : 2 * (a % b) ≤ a := by
      have q := Nat.div_add_mod a b
      have q2 : 1 ≤ a / b := Nat.div_pos (by omega) h0
      have q3 := Nat.mul_le_mul_left b q2
      omega
    have e : i + 1 - 1 = (i - 1) + 1 := by omega
    rw [e, Nat.pow_succ]
    have q5 : b * (a % b) * (2 ^ (i - 1) * 2) = b * (2 * (a % b)) * 2 ^ (i - 1) := by
      rw [Nat.mul_comm (2 ^ (i - 1)) 2, ← Nat.mul_assoc, Nat.mul_assoc b (a % b) 2, Nat.mul_comm (a % b) 2]
    rw [q5]
    have q6 : b * (2 * (a % b)) * 2 ^ (i - 1) ≤ b * a * 2 ^ (i - 1) := Nat.mul_le_mul_right _ (Nat.mul_le_mul_left b h4)
    rw [Nat.mul_comm b a] at q6
    omega
theorem eP_end {a b : Nat} (h : eP 64 a b) : b = 0 := by
  rcases h with ⟨h, -⟩ | ⟨-, h2, h3⟩
  · omega
  · rcases Nat.eq_zero_or_pos b with z | z
    · exact z
    · have h5 : 1 ≤ a * b := Nat.mul_pos (by omega) z
      have h6 := Nat.mul_le_mul_right (2 ^ (64 - 1)) h5
      have h7 : 1 * 2 ^ (64 - 1) < 2 ^ 52 := Nat.lt_of_le_of_lt h6 h3
      exact absurd h7 (by decide)
theorem gcd_two {a b : Nat} (ha : a < 2 ^ 31) (hb : b < 2 ^ 31) (h : eP 0 a b) {A B u d : Int64} (hA : A.toInt = (a : Int)) (hB : B.toInt = (b : Int)) (x : Int32) :
    ∃ g T, 0 < g ∧ g < 2 ^ 31 ∧ fX5_greatestDivisor (nI a) (nI b) = some (nI g) ∧ loopF (fX6_lowest_b17 u d x) 1000 (A, B) = some T ∧ T.toInt = (g : Int) := by
  have y0 : (0 : Int32).toInt = 0 := rfl
  have y0l : (0 : Int64).toInt = 0 := rfl
  have cz : ∀ B : Int64, lg_cmp B 0 = 0 ↔ B.toInt = 0 := by
    intro B
    have z1 := cmp_lt B 0
    have z2 := cmp_gt B 0
    rw [fa_lt, y0, fa_lt64, y0l] at z1
    rw [fa_lt, y0, fa_lt64, y0l] at z2
    constructor
    · intro q; rw [q, y0] at z1 z2; omega
    · intro q; exact eq32 (by rw [y0]; omega)
  have stop : ∀ (i : Nat) (v : Int32 × Int32 × Int32) (v' : Int64 × Int64) (a b : Nat), v.1 = nI a → v.2.1 = nI b → v'.1.toInt = (a : Int) → v'.2.toInt = (b : Int) → a < 2 ^ 31 → eP i a b → b = 0 → ∃ t t', fX5_greatestDivisor_b7 v = some (.inr t) ∧ fX6_lowest_b17 u d x v' = some (.inr t') ∧ ∃ g, 0 < g ∧ g < 2 ^ 31 ∧ t = nI g ∧ t'.toInt = (g : Int) := by
    rintro i ⟨v1, v2, v3⟩ ⟨w1, w2⟩ a b q1 q2 q4 q5 q6 q8 z
    dsimp only at q1 q2 q4 q5
    subst q1; subst q2
    subst z
    have a0 : 0 < a := by
      rcases q8 with ⟨-, h, -⟩ | ⟨-, h, -⟩ <;> omega
    refine ⟨nI a, w1, ?_, ?_, a, a0, q6, rfl, q4⟩
    · unfold fX5_greatestDivisor_b7
      dsimp only
      split
      · rfl
      · rw [if_pos (show nI 0 ≤ (0 : Int32) by decide)]
    · unfold fX6_lowest_b17
      dsimp only
      rw [if_pos ((cz w2).mpr q5)]
  obtain ⟨t, t', h1, h2, g, g1, g2, g3, g4⟩ := loop_twoO fX5_greatestDivisor_b7 (fX6_lowest_b17 u d x) (fun i v v' => ∃ a b : Nat, v.1 = nI a ∧ v.2.1 = nI b ∧ v.2.2 = nI i ∧ v'.1.toInt = (a : Int) ∧ v'.2.toInt = (b : Int) ∧ a < 2 ^ 31 ∧ b < 2 ^ 31 ∧ eP i a b) (fun t t' => ∃ g, 0 < g ∧ g < 2 ^ 31 ∧ t = nI g ∧ t'.toInt = (g : Int)) 64 (by
    rintro i ⟨v1, v2, v3⟩ ⟨w1, w2⟩ hi ⟨a, b, q1, q2, q3, q4, q5, q6, q7, q8⟩
    dsimp only at q1 q2 q3 q4 q5
    by_cases z : b = 0
    · exact Or.inr (stop i (v1, v2, v3) (w1, w2) a b q1 q2 q4 q5 q6 q8 z)
    · subst q1; subst q2; subst q3
      refine Or.inl ⟨(nI b, nI a - nI a / nI b * nI b, nI i + 1), (w2, w1 - w1 / w2 * w2), ?_, ?_, b, a % b, rfl, rem_ok q6 q7 (by omega), nI_1 i, q5, rem_okL q6 q7 (by omega) q4 q5, q7, ?_, eP_step q8 (by omega)⟩
      · unfold fX5_greatestDivisor_b7
        dsimp only
        have e2 := nI_toInt (n := b) q7
        have hc : ¬ (64 : Int32) ≤ nI i := nle (n := 64) hi (by omega)
        rw [if_neg hc, if_neg (by rw [fa_le, y0]; omega), ckN_ok (by intro q; rw [q, y0] at e2; omega)]
      · unfold fX6_lowest_b17
        dsimp only
        rw [if_neg (fun q => z (by have := (cz w2).mp q; omega)), ckL_ok (by intro q; rw [q, y0l] at q5; omega)]
      · have := Nat.mod_lt a (show b > 0 by omega)
        omega) (by
    rintro ⟨v1, v2, v3⟩ ⟨w1, w2⟩ ⟨a, b, q1, q2, q3, q4, q5, q6, q7, q8⟩
    exact stop 64 (v1, v2, v3) (w1, w2) a b q1 q2 q4 q5 q6 q8 (eP_end q8)) 64 0 (nI a, nI b, (0 : Int32)) (A, B) 1000 (by omega) (by omega) ⟨a, b, rfl, rfl, rfl, hA, hB, ha, hb, h⟩
  refine ⟨g, t', g1, g2, ?_, h2, g4⟩
  unfold fX5_greatestDivisor
  rw [h1, bd_s, g3]
  have y1 : (1 : Int32).toInt = 1 := rfl
  have e := nI_toInt (n := g) g2
  by_cases z : 1 < nI g
  · rw [if_pos z]
  · rw [if_neg z]
    rw [fa_lt, y1] at z
    congr 1
    exact eq32 (by rw [y1]; omega)
end GcdF
