section PureE
theorem toI_cond (x : Int32) : x.toInt = if 2 * x.toBitVec.toNat < 4294967296 then (x.toBitVec.toNat : Int) else (x.toBitVec.toNat : Int) - 4294967296 := by
  show x.toBitVec.toInt = _
  rw [BitVec.toInt_eq_toNat_cond]
  rfl
theorem sx8 (x : Int32) : (x <<< ((24 : Int32) &&& 31)) >>> ((24 : Int32) &&& 31) = x.toInt8.toInt32 := by
  apply Int32.toInt_inj.mp
  rw [pk_shr _ _ 24 (by decide), Int8.toInt_toInt32, toI_cond, pk_shl _ _ 24 (by decide)]
  show _ = x.toInt8.toBitVec.toInt
  rw [BitVec.toInt_eq_toNat_cond, Int32.toBitVec_toInt8, BitVec.signExtend_eq_setWidth_of_le _ (by omega), BitVec.toNat_setWidth, Int.shiftRight_eq_div_pow]
  have hN := x.toBitVec.isLt
  generalize x.toBitVec.toNat = N at hN ⊢
  split <;> split <;> omega
theorem sx16 (x : Int32) : (x <<< ((16 : Int32) &&& 31)) >>> ((16 : Int32) &&& 31) = x.toInt16.toInt32 := by
  apply Int32.toInt_inj.mp
  rw [pk_shr _ _ 16 (by decide), Int16.toInt_toInt32, toI_cond, pk_shl _ _ 16 (by decide)]
  show _ = x.toInt16.toBitVec.toInt
  rw [BitVec.toInt_eq_toNat_cond, Int32.toBitVec_toInt16, BitVec.signExtend_eq_setWidth_of_le _ (by omega), BitVec.toNat_setWidth, Int.shiftRight_eq_div_pow]
  have hN := x.toBitVec.isLt
  generalize x.toBitVec.toNat = N at hN ⊢
  split <;> split <;> omega
theorem idx_c {n : Nat} (hn : n ≤ 40) (a : Int32) : (∃ j, j < n ∧ a = nI j ∧ fX5_isWithin a 0 (nI n - 1) = some 1) ∨ fX5_isWithin a 0 (nI n - 1) = some 0 := by
  rcases isW_c a 0 (nI n - 1) with ⟨h1, h2, e⟩ | ⟨h, e⟩
  · left
    obtain ⟨j, hj, rfl⟩ := nI_of (x := a) (by rw [fa_lt]; rw [fa_le] at h1; omega)
    have e1 : (nI n - 1).toInt = (n : Int) - 1 := pk_sub_toInt (a := n) (b := 1) (by omega) (by omega)
    rw [fa_le, e1, nI_toInt hj] at h2
    exact ⟨j, by omega, rfl, e⟩
  · exact Or.inr e
theorem lay_c {k : Nat} (hk : k < 4) {size lane : Int32} {cells lanes lengths mc : Nat → Int32} (hR : RSheet k size lane cells lanes lengths mc) (a2 a3 : Int32) :
    (∃ f, fX1_faultAt size lane lane a2 1 = some f ∧ ¬ f = 0 ∧ fX6_lay lanes lengths mc (nI k) a2 a3 = some (-10 - f, mc)) ∨
    (∃ (j : Nat) (v : Int32), j < 40 ∧ a2 = nI j ∧ fX1_faultAt size lane lane a2 1 = some 0 ∧ fX1_lowestBits lane a3 = some v ∧ fX6_lay lanes lengths mc (nI k) a2 a3 = some (1, upd mc (40 * k + j) v)) := by
  obtain ⟨hs, hc⟩ := hR
  have w1 : fX5_isWithin (nI k) 0 3 = some 1 := isW_t (nI_pos' (by omega)) ((nI_leI (b := 3) (by omega) (by omega)).mpr (by omega))
  simp only [fX6_lay, in_0_3, in_0_v, w1, bd_s, one0, ite_false, ckI_nI hk (by omega : (4 : Nat) < 2 ^ 31), nI_clamp (show k < 2 ^ 31 by omega)]
  rcases hs with ⟨rfl, h4⟩ | ⟨n, hn, rfl, hl, hla, hlane⟩
  · left
    refine ⟨1, ?_, by decide, ?_⟩
    · unfold fX1_faultAt; rw [if_neg (by decide)]
    · rw [h4, if_pos rfl]; rfl
  · have hne : ¬ lanes k = -4 := by rw [hla]; rcases hlane with rfl | rfl | rfl <;> decide
    rw [if_neg hne, hl]
    have hf : fX1_faultAt (nI n) lane lane a2 1 = bd (fX5_isWithin a2 0 (nI n - 1)) (fun t3 => if t3 = 0 then some 2 else some 0) := by
      unfold fX1_faultAt; rw [if_pos (nI_pos' (by omega)), if_pos rfl]
    rcases idx_c hn a2 with ⟨j, hj, rfl, e⟩ | e
    · right
      have ej : (40 : Int32) * nI k + nI j = nI (40 * k + j) := by rw [show (40 : Int32) * nI k = nI (40 * k) from pk_mul 40 k, nI_add]
      simp only [hf, e, bd_s, one0, ite_false, ej, hla]
      have ck : ∀ x : Option (Int32 × (Nat → Int32)), ckI (nI (40 * k + j)) 160 x = x := fun x => ckI_nI (by omega) (by omega) x
      simp only [ck, nI_clamp (show 40 * k + j < 2 ^ 31 by omega), sx8, sx16]
      rcases hlane with rfl | rfl | rfl
      · exact ⟨j, _, by omega, rfl, trivial, rfl, rfl⟩
      · exact ⟨j, _, by omega, rfl, trivial, rfl, rfl⟩
      · exact ⟨j, _, by omega, rfl, trivial, rfl, rfl⟩
    · left
      simp only [hf, e, bd_s, ite_true]
      exact ⟨2, rfl, by decide, rfl⟩
theorem RSheet_lay {k j : Nat} (hj : j < 40) {size lane v : Int32} {cells lanes lengths mc : Nat → Int32} (hR : RSheet k size lane cells lanes lengths mc) : RSheet k size lane (upd cells j v) lanes lengths (upd mc (40 * k + j) v) := by
  refine ⟨hR.1, fun i hi => ?_⟩
  rw [upd_at, upd_at]
  by_cases e : i = j
  · rw [if_pos (by omega), if_pos e]
  · rw [if_neg (by omega), if_neg e]; exact hR.2 i hi
theorem RSheet_lay2 {k k' j : Nat} (h : k ≠ k') (hj : j < 40) {size lane v : Int32} {cells lanes lengths mc : Nat → Int32} (hR : RSheet k size lane cells lanes lengths mc) : RSheet k size lane cells lanes lengths (upd mc (40 * k' + j) v) := by
  refine ⟨hR.1, fun i hi => ?_⟩
  rw [upd_at, if_neg (by omega)]; exact hR.2 i hi
end PureE
