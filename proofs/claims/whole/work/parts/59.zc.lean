section OffC
theorem vo_3 {i : Nat} (h : i < 11) : VO (3 : Int32) (nI i) := by
  have h1 := nI_toInt (n := i) (by omega)
  have h2 : (3 : Int32).toInt = 3 := rfl
  refine ⟨by omega, by omega, by omega, by omega, fun _ => by omega⟩
end OffC
section DivC
theorem div32 {a b : Int32} (hb : 0 < b.toInt) : (a / b).toInt = a.toInt.tdiv b.toInt := by
  refine Int32.toInt_div_of_ne_right a b ?_
  intro q
  rw [q] at hb
  exact absurd hb (by decide)
theorem div64 {a b : Int64} (hb : 0 < b.toInt) : (a / b).toInt = a.toInt.tdiv b.toInt := by
  refine Int64.toInt_div_of_ne_right a b ?_
  intro q
  rw [q] at hb
  exact absurd hb (by decide)
theorem msb32 (x : Int32) : x.toBitVec.msb = decide (x.toInt < 0) := by
  have h : x.toInt = x.toBitVec.toInt := rfl
  rw [h, BitVec.msb_eq_toInt]
theorem xor_nn {a b : Int32} (ha : 0 ≤ a.toInt) (hb : 0 ≤ b.toInt) : (0 : Int32) ≤ a ^^^ b := by
  have h := msb32 (a ^^^ b)
  rw [show (a ^^^ b).toBitVec = a.toBitVec ^^^ b.toBitVec from rfl, BitVec.msb_xor, msb32 a, msb32 b, decide_eq_false (by omega), decide_eq_false (by omega)] at h
  have h2 := of_decide_eq_false (show decide ((a ^^^ b).toInt < 0) = false from h.symm)
  rw [fa_le]
  have y : (0 : Int32).toInt = 0 := rfl
  omega
theorem fdiv_nn {a b : Int32} (ha : 0 ≤ a.toInt) (hb : 0 < b.toInt) : ∃ q, fJ9_floorDiv_7cf53 a b = some q ∧ q.toInt = a.toInt / b.toInt := by
  have hne : ¬ b = 0 := by intro q; rw [q] at hb; exact absurd hb (by decide)
  unfold fJ9_floorDiv_7cf53
  rw [ckN_ok hne, if_pos (xor_nn ha (by omega))]
  exact ⟨_, rfl, by rw [div32 hb, Int.tdiv_eq_ediv_of_nonneg ha]⟩
theorem fdiv_neg {a b : Int32} (ha : a.toInt < 0) (h2 : -1000000000 ≤ a.toInt) (hb : 0 < b.toInt) : ∃ q, fJ9_floorDiv_7cf53 a b = some q ∧ q.toInt ≤ 0 := by
  have hne : ¬ b = 0 := by intro q; rw [q] at hb; exact absurd hb (by decide)
  have h0 : (a / b).toInt ≤ 0 := by
    rw [div32 hb]
    have := Int.tdiv_nonneg (a := -a.toInt) (b := b.toInt) (by omega) (by omega)
    rw [Int.neg_tdiv] at this
    omega
  have h1 : -1000000000 ≤ (a / b).toInt := by
    rw [div32 hb]
    have h3 : (-a.toInt).tdiv b.toInt ≤ -a.toInt := by
      rw [Int.tdiv_eq_ediv_of_nonneg (by omega)]
      exact Int.ediv_le_self _ (by omega)
    rw [Int.neg_tdiv] at h3
    omega
  unfold fJ9_floorDiv_7cf53
  rw [ckN_ok hne]
  split
  · exact ⟨_, rfl, h0⟩
  · split
    · exact ⟨_, rfl, h0⟩
    · refine ⟨_, rfl, ?_⟩
      have y : (1 : Int32).toInt = 1 := rfl
      rw [fb_subI (by omega) (by omega), y]
      omega
end DivC
