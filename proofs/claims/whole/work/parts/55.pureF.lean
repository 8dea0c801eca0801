section PureF
theorem and255 (z : Int32) : z &&& 255 = nI (z.toBitVec.toNat % 256) := pk_and z 8 (by decide)
theorem sh_low (l : Int64) (n : Nat) (hn : n = 0 ∨ n = 8 ∨ n = 16 ∨ n = 24 ∨ n = 32 ∨ n = 40 ∨ n = 48 ∨ n = 56) {u : UInt64} {v : Int64} (hu : u.toNat % 64 = n) (hv : (v.toBitVec.smod 64) = BitVec.ofNat 64 n) :
    (l.toUInt64 >>> u).toInt64.toInt32 &&& 255 = (l >>> v).toInt32 &&& 255 := by
  rw [and255, and255]
  congr 1
  have e1 : ((l.toUInt64 >>> u).toInt64.toInt32).toBitVec.toNat % 256 = (l.toBitVec.toNat / 2 ^ n) % 256 := by
    rw [Int64.toBitVec_toInt32, BitVec.signExtend_eq_setWidth_of_le _ (by omega), BitVec.toNat_setWidth]
    have e2 : (l.toUInt64 >>> u).toInt64.toBitVec.toNat = l.toBitVec.toNat / 2 ^ n := by
      show (l.toUInt64 >>> u).toNat = _
      rw [UInt64.toNat_shiftRight, hu, Nat.shiftRight_eq_div_pow]
      rfl
    rw [e2]
    omega
  have e3 : ((l >>> v).toInt32).toBitVec.toNat % 256 = (l.toBitVec.toNat / 2 ^ n) % 256 := by
    rw [Int64.toBitVec_toInt32, BitVec.signExtend_eq_setWidth_of_le _ (by omega), BitVec.toNat_setWidth, Int64.toBitVec_shiftRight, hv]
    have e4 : (l.toBitVec.sshiftRight' (BitVec.ofNat 64 n)) = l.toBitVec.sshiftRight n := by
      rw [BitVec.sshiftRight_eq', BitVec.toNat_ofNat, Nat.mod_eq_of_lt (by omega)]
    rw [e4]
    have e5 : (l.toBitVec.sshiftRight n).toInt = l.toBitVec.toInt >>> n := BitVec.toInt_sshiftRight
    have h1 := (l.toBitVec.sshiftRight n).isLt
    have h2 := l.toBitVec.isLt
    rw [BitVec.toInt_eq_toNat_cond, BitVec.toInt_eq_toNat_cond, Int.shiftRight_eq_div_pow] at e5
    generalize (l.toBitVec.sshiftRight n).toNat = Y at e5 h1 ⊢
    generalize l.toBitVec.toNat = X at e5 h2 ⊢
    rcases hn with rfl | rfl | rfl | rfl | rfl | rfl | rfl | rfl <;> (split at e5 <;> split at e5 <;> omega)
  rw [e1, e3]
theorem bp_b8 (x : Int32) : x.toInt8.toInt32 &&& 255 = x &&& 255 := by
  rw [and255, and255]
  congr 1
  rw [Int8.toBitVec_toInt32, BitVec.toNat_signExtend, Int32.toBitVec_toInt8, BitVec.signExtend_eq_setWidth_of_le _ (by omega), BitVec.toNat_setWidth, BitVec.toNat_setWidth]
  have h := x.toBitVec.isLt
  split <;> omega
/-- counting ones -/
def pc8 (b : Nat) : Nat := b % 2 + b / 2 % 2 + b / 4 % 2 + b / 8 % 2 + b / 16 % 2 + b / 32 % 2 + b / 64 % 2 + b / 128 % 2
theorem bitc : ∀ b, b < 256 → fJ6_bitCount_0f7a4 (nI b) = some (nI (pc8 b)) := by decide +kernel
theorem pc_add : ∀ n, n < 8 → ∀ b, b < 2 ^ n → pc8 (b + 2 ^ n) = pc8 b + 1 := by decide +kernel
def gmask (g : Nat → Bool) : Nat → Nat
  | 0 => 0
  | n + 1 => gmask g n + if g n then 2 ^ n else 0
theorem gmask_lt (g : Nat → Bool) : ∀ n, gmask g n < 2 ^ n
  | 0 => by show 0 < 1; omega
  | n + 1 => by
    have h := gmask_lt g n
    rw [gmask, Nat.pow_succ]
    split <;> omega
theorem pc_mask (g : Nat → Bool) : ∀ n, n ≤ 8 → pc8 (gmask g n) = fa_cnt g n
  | 0, _ => by show pc8 0 = 0; decide
  | n + 1, hn => by
    have h := pc_mask g n (by omega)
    rw [gmask, fa_cnt]
    split
    · rw [pc_add n (by omega) _ (gmask_lt g n), h]
    · rw [Nat.add_zero, Nat.add_zero, h]
theorem shl1 : ∀ k, k < 31 → (1 : Int32) <<< (nI k &&& 31) = nI (2 ^ k) := by decide +kernel
theorem or_bit {g : Nat → Bool} {k : Nat} (hk : k < 8) : nI (gmask g k) ||| nI (2 ^ k) = nI (gmask g k + 2 ^ k) := by
  have h := fa_or_sum (a := gmask g k) (k := k) 1 (gmask_lt g k)
  rw [Nat.mul_one] at h
  rw [Int32.or_comm, h, Nat.add_comm]
def goodB (would : Nat → Int32) (mark : Int32) (j : Nat) : Bool := !decide (would j < mark)
theorem good_b (would : Nat → Int32) (mark : Int32) {j : Nat} (hj : j < 8) : fX2_isGood would mark (nI j) = some (if goodB would mark j then 1 else 0) := by
  unfold fX2_isGood goodB
  rw [ckI_nI hj (by omega), nI_clamp (by omega)]
  by_cases h : would j < mark <;> simp [h]
theorem goodOnes_eq (would : Nat → Int32) (mark : Int32) {n : Nat} (hn : n ≤ 8) : fX2_goodOnes would (nI n) mark = some (nI (gmask (goodB would mark) n)) := by
  unfold fX2_goodOnes
  obtain ⟨t, h1, h2⟩ := loop_to (fX2_goodOnes_b4 (nI n) would mark) (fun k v => v = (nI (gmask (goodB would mark) k), nI k)) (fun t => t = nI (gmask (goodB would mark) n)) n (v := ((0 : Int32), (0 : Int32))) (by omega) rfl (by
    rintro k v hk rfl
    refine ⟨_, ?_, rfl⟩
    unfold fX2_goodOnes_b4
    dsimp only
    rw [if_neg (nle hk (by omega)), good_b would mark (by omega), bd_s, nI_1, shl1 k (by omega), gmask]
    by_cases g : goodB would mark k = true
    · rw [if_pos g, if_neg (by decide), bd_s, or_bit (by omega), if_pos g]
    · rw [if_neg g, if_pos rfl, bd_s, if_neg g, Int32.or_zero]; rfl) (by
    rintro v rfl
    exact ⟨_, by unfold fX2_goodOnes_b4; dsimp only; rw [if_pos (nI_le (Nat.le_refl n) (by omega))], rfl⟩)
  rw [h1, h2]
  rfl
theorem sum0_eq (r : Nat → Int32) {n : Nat} (hn : n ≤ 8) (a : Int32) : fX2_sumOf0 r (nI n) a = some (bx_sum r n) := by
  unfold fX2_sumOf0
  obtain ⟨t, h1, h2⟩ := loop_to (fX2_sumOf0_b11 (nI n) r) (fun k v => v = (bx_sum r k, nI k)) (fun t => t = bx_sum r n) n (v := ((0 : Int32), (0 : Int32))) (by omega) rfl (by
    rintro k v hk rfl
    refine ⟨_, ?_, rfl⟩
    unfold fX2_sumOf0_b11
    dsimp only
    rw [if_neg (nle hk (by omega)), ckI_nI (by omega) (by omega), nI_clamp (by omega), nI_1]
    rfl) (by
    rintro v rfl
    exact ⟨_, by unfold fX2_sumOf0_b11; dsimp only; rw [if_pos (nI_le (Nat.le_refl n) (by omega))], rfl⟩)
  show bd (some ()) _ = _
  rw [bd_s, h1, h2]
  rfl
theorem sum4_eq (r : Nat → Int32) {n : Nat} (hn : n ≤ 8) (a : Int32) : fX2_sumOf4 r (nI n) a = some (bx_sum r n) := by
  unfold fX2_sumOf4
  obtain ⟨t, h1, h2⟩ := loop_to (fX2_sumOf4_b11 (nI n) r) (fun k v => v = (bx_sum r k, nI k)) (fun t => t = bx_sum r n) n (v := ((0 : Int32), (0 : Int32))) (by omega) rfl (by
    rintro k v hk rfl
    refine ⟨_, ?_, rfl⟩
    unfold fX2_sumOf4_b11
    dsimp only
    rw [if_neg (nle hk (by omega)), ckI_nI (by omega) (by omega), nI_clamp (by omega), nI_1]
    rfl) (by
    rintro v rfl
    exact ⟨_, by unfold fX2_sumOf4_b11; dsimp only; rw [if_pos (nI_le (Nat.le_refl n) (by omega))], rfl⟩)
  show bd (some ()) _ = _
  rw [bd_s, h1, h2]
  rfl
theorem count6_eq {sorts rules many has would fail must : Nat → Int32} {mark : Int32} {n : Nat} (hn : n ≤ 8) (hs : SS n sorts many has would fail must) (h0 : rules 0 = mark) (a : Int32) :
    loopF (fX6_count_b10 a (nI n) sorts rules) 1000 ((0 : Int32), (0 : Int32), (0 : Int32), (0 : Int32)) = some (bx_sum many n, bx_sum must n, nI (fa_cnt (goodB would mark) n)) := by
  obtain ⟨t, h1, h2⟩ := loop_to (fX6_count_b10 a (nI n) sorts rules) (fun k v => v = (bx_sum many k, bx_sum must k, nI (fa_cnt (goodB would mark) k), nI k)) (fun t => t = (bx_sum many n, bx_sum must n, nI (fa_cnt (goodB would mark) n))) n (v := ((0 : Int32), (0 : Int32), (0 : Int32), (0 : Int32))) (by omega) rfl (by
    rintro k v hk rfl
    obtain ⟨g0, g1, g2, g3, g4, g5⟩ := hs k hk
    have hk8 : k < 8 := by omega
    refine ⟨_, ?_, rfl⟩
    unfold fX6_count_b10
    dsimp only
    rw [if_neg (nle hk (by omega)), i0' hk8, bd_s, i4' hk8, bd_s, good6 hk8 g2 h0, good_b would mark hk8, bd_s, g0, g4, nI_1]
    by_cases g : goodB would mark k = true
    · rw [if_pos g, if_neg (by decide), bd_s, fa_cnt_yes g, nI_1]
      rfl
    · rw [if_neg g, if_pos rfl, bd_s, fa_cnt_no (by simpa using g), Int32.add_zero]
      rfl) (by
    rintro v rfl
    exact ⟨_, by unfold fX6_count_b10; dsimp only; rw [if_pos (nI_le (Nat.le_refl n) (by omega))], rfl⟩)
  rw [h1, h2]
theorem m256 {g : Nat → Bool} {n : Nat} (hn : n ≤ 8) : gmask g n < 256 := Nat.lt_of_lt_of_le (gmask_lt g n) (Nat.pow_le_pow_right (by omega) hn)
/-- eight bytes -/
abbrev shK (k : Nat) : Int32 := Int32.ofInt (56 - 8 * (k : Int))
theorem sh_next : ∀ k, k < 8 → shK k + (-8 : Int32) = shK (k + 1) ∧ ¬ shK k < 0 ∧ ((shK k).toInt64.toUInt64 &&& Int64.toUInt64 63).toNat % 64 = 56 - 8 * k ∧ ((shK k).toInt64 &&& 63).toBitVec.smod 64 = BitVec.ofNat 64 (56 - 8 * k) := by decide +kernel
theorem feed_two {l : Int64} {tb mr : Nat → Int32} {n : Nat} (hn : n + 8 ≤ 240) (h : ∀ j, j < n → (tb j).toInt8.toInt32 = tb j ∧ mr j = tb j &&& 255) :
    ∃ t t', loopF (fX5_feed_b22 l) 1000 ((56 : Int32), tb, nI n) = some t ∧ loopF (fX6_feed_b19 l) 1000 ((56 : Int32), mr, nI n) = some t' ∧ (t.2 = nI (n + 8) ∧ t'.2 = nI (n + 8) ∧ ∀ j, j < n + 8 → (t.1 j).toInt8.toInt32 = t.1 j ∧ t'.1 j = t.1 j &&& 255) := by
  refine loop_two (fX5_feed_b22 l) (fX6_feed_b19 l) (fun k v v' => v.1 = shK k ∧ v'.1 = shK k ∧ v.2.2 = nI (n + k) ∧ v'.2.2 = nI (n + k) ∧ ∀ j, j < n + k → (v.2.1 j).toInt8.toInt32 = v.2.1 j ∧ v'.2.1 j = v.2.1 j &&& 255) (fun t t' => t.2 = nI (n + 8) ∧ t'.2 = nI (n + 8) ∧ ∀ j, j < n + 8 → (t.1 j).toInt8.toInt32 = t.1 j ∧ t'.1 j = t.1 j &&& 255) 8 (by omega) ⟨(show (56 : Int32) = shK 0 by decide), (show (56 : Int32) = shK 0 by decide), rfl, rfl, h⟩ ?_ ?_
  · rintro k ⟨s1, f, m1⟩ ⟨s2, g, m2⟩ hk ⟨e1, e2, e3, e4, hj⟩
    dsimp only at e1 e2 e3 e4 hj
    subst e1; subst e2; subst e3; subst e4
    obtain ⟨n1, n2, n3, n4⟩ := sh_next k hk
    refine ⟨(shK (k + 1), upd f (n + k) (vp_nar .byte (((l.toUInt64 >>> ((shK k).toInt64.toUInt64 &&& Int64.toUInt64 63)).toInt64).toInt32).toInt8.toInt32), nI (n + (k + 1))), (shK (k + 1), upd g (n + k) ((l >>> ((shK k).toInt64 &&& 63)).toInt32 &&& (255 : Int32)), nI (n + (k + 1))), ?_, ?_, rfl, rfl, rfl, rfl, ?_⟩
    · unfold fX5_feed_b22
      dsimp only
      rw [if_neg n2, ckI_nI (by omega) (by omega), nI_clamp (by omega), n1, nI_1]
      rfl
    · unfold fX6_feed_b19
      dsimp only
      rw [if_neg n2, ckI_nI (by omega) (by omega), nI_clamp (by omega), n1, nI_1]
      rfl
    · intro j hj2
      dsimp only
      rw [upd_at, upd_at]
      by_cases e : j = n + k
      · rw [if_pos e, if_pos e, vp_nar_byte, fb_byte_twice, fb_byte_twice]
        refine ⟨rfl, ?_⟩
        rw [bp_b8, sh_low l (56 - 8 * k) (by omega) n3 n4]
      · rw [if_neg e, if_neg e]
        exact hj j (by omega)
  · rintro ⟨s1, f, m1⟩ ⟨s2, g, m2⟩ ⟨e1, e2, e3, e4, hj⟩
    dsimp only at e1 e2 e3 e4 hj
    subst e1; subst e2; subst e3; subst e4
    refine ⟨(f, nI (n + 8)), (g, nI (n + 8)), ?_, ?_, rfl, rfl, hj⟩
    · unfold fX5_feed_b22; dsimp only; rw [if_pos (by decide)]
    · unfold fX6_feed_b19; dsimp only; rw [if_pos (by decide)]
end PureF
