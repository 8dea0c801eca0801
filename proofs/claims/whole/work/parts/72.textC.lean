section TextC
theorem s_l5 : ∀ n, n < 32 → ((nI n &&& 31).toBitVec.smod 32).toNat = n := by decide +kernel
theorem sh_tp : ∀ l, l < 32 → ((1 : Int32) <<< (nI l &&& 31)).toBitVec = BitVec.twoPow 32 l := by decide +kernel
theorem bit_01 : ∀ b : Bool, BitVec.setWidth 32 (BitVec.ofBool b) = (if b = true then (1 : Int32) else 0).toBitVec := by decide
theorem told_bit (w : Int32) {j : Nat} (hj : j < 32) : ((w >>> (nI j &&& 31)) &&& (1 : Int32)) = if w.toBitVec.getLsbD j = true then 1 else 0 := by
  apply Int32.toBitVec_inj.1
  rw [Int32.toBitVec_and, Int32.toBitVec_shiftRight]
  show (w.toBitVec.sshiftRight ((nI j &&& 31).toBitVec.smod 32).toNat &&& 1#32) = _
  have h2 : (w.toBitVec.sshiftRight j).getLsbD 0 = w.toBitVec.getLsbD j := by rw [BitVec.getLsbD_sshiftRight]; simp [hj]
  rw [s_l5 j hj, BitVec.and_one_eq_setWidth_ofBool_getLsbD, h2]
  exact bit_01 _
theorem told_set (w : Int32) {j : Nat} (hj : j < 32) (i : Nat) : (w ||| ((1 : Int32) <<< (nI j &&& 31))).toBitVec.getLsbD i = (w.toBitVec.getLsbD i || decide (j = i)) := by
  rw [Int32.toBitVec_or, BitVec.getLsbD_or, sh_tp j hj, BitVec.getLsbD_twoPow]
  simp [hj]
/-- where the reference has the bit that the class has at i -/
def tm (i : Nat) : Nat := if i < 16 then 16 + i else i - 13
theorem tm_lt {i : Nat} (h : i < 19) : tm i < 32 := by unfold tm; split <;> omega
def ToldR (w w' : Int32) : Prop := ∀ i, i < 19 → w.toBitVec.getLsbD i = w'.toBitVec.getLsbD (tm i)
theorem told_up {w w' : Int32} (h : ToldR w w') {j : Nat} (hj : j < 19) : ToldR (w ||| ((1 : Int32) <<< (nI j &&& 31))) (w' ||| ((1 : Int32) <<< (nI (tm j) &&& 31))) := by
  intro i hi
  rw [told_set _ (by omega), told_set _ (tm_lt hj), h i hi]
  by_cases e : j = i
  · subst e; simp
  · rw [decide_eq_false e, decide_eq_false (by unfold tm; split <;> split <;> omega)]
theorem tell5x {d1 d2 w d7 x : Int32} (h : 0 < d1) : fX0_tellOnce d1 d2 w d7 x = some (d1, d2, w ||| ((1 : Int32) <<< (x &&& 31))) := by
  unfold fX0_tellOnce
  rw [if_neg (pos_ne h), bd_s]
section Tape
variable {n : Nat} {tb mr : Nat → Int32} {g : Nat → Nat} {cuts letters : Nat → Int32}
theorem tell_two {lo j : Nat} (hj : j < 19) {c : K6} {x3 x4 x5 x6 x7 x8 w w' : Int32} (h : TkR n lo c (x3, x4, x5, x6, x7, x8)) (h0 : x3 = 0) (hw : ToldR w w') : ∃ e1 e2 w1 p p' : Int32, fX0_tellOnce c.1 c.2.1 w c.2.2.2.2.1 (nI j) = some (e1, e2, w1) ∧ (if ((w' >>> (nI (tm j) &&& 31)) &&& (1 : Int32)) = (1 : Int32) then (bd (fX6_fails x3 x4 x6 (4 : Int32)) (fun t7 => some (t7.1, t7.2))) else (some (x3, x4))) = some (p, p') ∧ TkR n lo (e1, e2, c.2.2) (p, p', x5, x6, x7, x8) ∧ (p = 0 ∨ 0 < p) ∧ ToldR w1 (w' ||| ((1 : Int32) <<< (nI (tm j) &&& 31))) := by
  have c0 : c.1 = 0 := (TkR_0 h).mpr h0
  have pl : c.2.2.2.2.1 = x6 := TkR_pl h h0
  have hb := hw j hj
  unfold fX0_tellOnce
  rw [if_pos c0, told_bit w (by omega), told_bit w' (tm_lt hj), ← hb]
  cases w.toBitVec.getLsbD j
  · refine ⟨c.1, c.2.1, _, x3, x4, rfl, rfl, h, Or.inl h0, told_up hw hj⟩
  · refine ⟨4, c.2.2.2.2.1, _, 4, x6, rfl, ?_, Or.inr ⟨show (0 : Int32) < 4 by decide, rfl, pl⟩, Or.inr (by decide), told_up hw hj⟩
    unfold fX6_fails
    rw [if_pos (show (if true = true then (1 : Int32) else 0) = 1 by decide), if_pos h0]
    rfl
theorem tellOf {lo q : Nat} (hq : q ≤ 8) {c1 m1 : K6} {p1 p1' v1 u1 w w' o a1 : Int32} (ho : ∃ k, k ≤ 1 ∧ o = nI (8 * k) ∧ a1 = nI (1 + k)) (T1 : TkR n lo c1 (p1, p1', m1.2.2.1, m1.2.2.2.1, m1.2.2.2.2.1, m1.2.2.2.2.2)) (D1 : (c1.1 = 0 ∧ p1 = 0 ∧ m1.1 = 0 ∧ ∃ x, x ≤ 99 ∧ v1 = nI x ∧ u1 = nI x ∧ (0 : Int32) ≤ nI x ∧ nI x ≤ nI q - (1 : Int32)) ∨ (0 < c1.1 ∧ 0 < p1 ∧ v1 = 0 ∧ u1 = 0)) (hw : ToldR w w') :
    ∃ (s : Nat) (e1 e2 w1 p p' y : Int32), s < 8 ∧ v1 = nI s ∧ u1 = nI s ∧ fX0_tellOnce c1.1 c1.2.1 w c1.2.2.2.2.1 (o + v1) = some (e1, e2, w1) ∧ (if p1 = (0 : Int32) then (if ((w' >>> ((((8 : Int32) + ((8 : Int32) * a1)) + u1) &&& 31)) &&& (1 : Int32)) = (1 : Int32) then (bd (fX6_fails p1 p1' m1.2.2.2.1 (4 : Int32)) (fun t7 => some (t7.1, t7.2))) else (some (p1, p1'))) else (some (p1, p1'))) = some (p, p') ∧ (if p = (0 : Int32) then (some ((1 : Int32) <<< ((((8 : Int32) + ((8 : Int32) * a1)) + u1) &&& 31))) else (some (0 : Int32))) = some y ∧ TkR n lo (e1, e2, c1.2.2) (p, p', m1.2.2.1, m1.2.2.2.1, m1.2.2.2.2.1, m1.2.2.2.2.2) ∧ (p = 0 → s < q ∧ ToldR w1 (w' ||| y)) := by
  obtain ⟨k, hk, rfl, rfl⟩ := ho
  rcases D1 with ⟨z1, z2, -, s, hs, rfl, rfl, -, hm⟩ | ⟨z1, z2, rfl, rfl⟩
  · have hsq : s < q := by
      rw [fa_le, nI_toInt (by omega), show (1 : Int32) = nI 1 from rfl, pk_sub_toInt (by omega) (by omega)] at hm
      omega
    have e1 : nI (8 * k) + nI s = nI (8 * k + s) := nI_add _ _
    have e2 : ((8 : Int32) + ((8 : Int32) * nI (1 + k))) + nI s = nI (tm (8 * k + s)) := by
      rw [show (8 : Int32) * nI (1 + k) = nI (8 * (1 + k)) from pk_mul 8 _, show (8 : Int32) + nI (8 * (1 + k)) = nI (8 + 8 * (1 + k)) from nI_add 8 _, nI_add]
      unfold tm
      rw [if_pos (by omega), show 8 + 8 * (1 + k) + s = 16 + (8 * k + s) by omega]
    obtain ⟨a, b, w1, p, p', t1, t2, t3, t4, t5⟩ := tell_two (j := 8 * k + s) (by omega) T1 z2 hw
    rw [e1, e2, if_pos z2]
    rcases t4 with t4 | t4
    · exact ⟨s, a, b, w1, p, p', _, by omega, rfl, rfl, t1, t2, if_pos t4, t3, fun _ => ⟨hsq, t5⟩⟩
    · exact ⟨s, a, b, w1, p, p', _, by omega, rfl, rfl, t1, t2, if_neg (pos_ne t4), t3, fun q => absurd q (pos_ne t4)⟩
  · exact ⟨0, _, _, _, p1, p1', _, by omega, rfl, rfl, tell5x z1, if_neg (pos_ne z2), if_neg (pos_ne z2), T1, fun q => absurd q (pos_ne z2)⟩
theorem add_some {q : Nat} (hq : q ≤ 8) (r0 r1 r2 r3 r4 : Nat → Int32) (a b c d : Int32) : ∃ (a0 a1 a2 a3 a4 : Nat → Int32) (a5 : Int32), fX2_add r0 r1 r2 r3 r4 (nI q) a b c d = some (a0, a1, a2, a3, a4, a5) := by
  by_cases h : q < 8
  · exact ⟨_, _, _, _, _, _, add_ok h⟩
  · unfold fX2_add
    rw [if_pos (show (8 : Int32) ≤ nI q from nI_le (a := 8) (by omega) (by omega))]
    exact ⟨_, _, _, _, _, _, rfl⟩
theorem lay_okb {n : Nat} (h : n < 8) {r : Nat → Int32} {a b c d : Int32} : fX6_layRowb r (nI n) a b c d = some (upd (upd (upd (upd (upd r (5 * n) a) (5 * n + 1) b) (5 * n + 2) c) (5 * n + 3) d) (5 * n + 4) 0) := by
  unfold fX6_layRowb
  have e0 : (5 : Int32) * nI n = nI (5 * n) := pk_mul 5 n
  have e1 : nI (5 * n) + (1 : Int32) = nI (5 * n + 1) := nI_add (5 * n) 1
  have e2 : nI (5 * n) + (2 : Int32) = nI (5 * n + 2) := nI_add (5 * n) 2
  have e3 : nI (5 * n) + (3 : Int32) = nI (5 * n + 3) := nI_add (5 * n) 3
  have e4 : nI (5 * n) + (4 : Int32) = nI (5 * n + 4) := nI_add (5 * n) 4
  simp only [e0, e1, e2, e3, e4, ckI_nI (show 5 * n < 40 by omega) (by omega : (40 : Nat) < 2 ^ 31), ckI_nI (show 5 * n + 1 < 40 by omega) (by omega : (40 : Nat) < 2 ^ 31), ckI_nI (show 5 * n + 2 < 40 by omega) (by omega : (40 : Nat) < 2 ^ 31), ckI_nI (show 5 * n + 3 < 40 by omega) (by omega : (40 : Nat) < 2 ^ 31), ckI_nI (show 5 * n + 4 < 40 by omega) (by omega : (40 : Nat) < 2 ^ 31), nI_clamp (show 5 * n < 2 ^ 31 by omega), nI_clamp (show 5 * n + 1 < 2 ^ 31 by omega), nI_clamp (show 5 * n + 2 < 2 ^ 31 by omega), nI_clamp (show 5 * n + 3 < 2 ^ 31 by omega), nI_clamp (show 5 * n + 4 < 2 ^ 31 by omega)]
theorem toI {x : Nat} {l u : Int32} (hx : x ≤ 99) (h1 : l ≤ nI x) (h2 : nI x ≤ u) : l.toInt ≤ (nI x).toInt ∧ (nI x).toInt ≤ u.toInt := ⟨(fa_le _ _).mp h1, (fa_le _ _).mp h2⟩
theorem sort_two (hT : TP n tb mr g) (hC : RConst cuts letters) {lo q : Nat} (hq : q ≤ 8) {c : K6} {x3 x4 x5 x6 x7 x8 : Int32} (h : TkR n lo c (x3, x4, x5, x6, x7, x8)) (ht : ¬ c.2.2.2.1 = 0) (h0 : x3 = 0) {r0 r1 r2 r3 r4 m13 : Nat → Int32} (hS : SS q m13 r0 r1 r2 r3 r4) :
    ∃ (p p' : Int32) (c1 : K6) (a0 a1 a2 a3 a4 : Nat → Int32) (a5 : Int32) (e13 : Nat → Int32) (m1 : K6) (e14 : Int32), fX0_takeSort c.1 c.2.1 c.2.2.1 c.2.2.2.1 c.2.2.2.2.1 c.2.2.2.2.2 tb (nI n) r0 r1 r2 r3 r4 (nI q) = some (c1.1, c1.2.1, c1.2.2.1, c1.2.2.2.1, c1.2.2.2.2.1, c1.2.2.2.2.2, a0, a1, a2, a3, a4, a5) ∧
      (if nI q = (8 : Int32) then (bd (fX6_fails x3 x4 x6 (5 : Int32)) (fun t31 => some (t31.1, t31.2))) else (some (x3, x4))) = some (p, p') ∧ fX6_readSort mr cuts letters m13 (nI n) p p' x5 x6 x7 x8 (nI q) = some (e13, m1.1, m1.2.1, m1.2.2.1, m1.2.2.2.1, m1.2.2.2.2.1, m1.2.2.2.2.2, e14) ∧ NR tb n (lo + 1) c1 m1 ∧ (m1.1 = 0 → ∃ q', q' ≤ 8 ∧ a5 = nI q' ∧ e14 = nI q' ∧ SS q' e13 a0 a1 a2 a3 a4) := by
  have c0 : c.1 = 0 := (TkR_0 h).mpr h0
  have pl : c.2.2.2.2.1 = x6 := TkR_pl h h0
  have ninth : ∃ e1 e2 p p' : Int32, (if nI q < (8 : Int32) then (some (c.1, c.2.1)) else (bd (fX0_refuse (c.2.2.2.2.1) (5 : Int32)) (fun t2 => some (t2.1, t2.2)))) = some (e1, e2) ∧ (if nI q = (8 : Int32) then (bd (fX6_fails x3 x4 x6 (5 : Int32)) (fun t31 => some (t31.1, t31.2))) else (some (x3, x4))) = some (p, p') ∧ TkR n lo (e1, e2, c.2.2) (p, p', x5, x6, x7, x8) ∧ (p = 0 → q < 8) := by
    by_cases q8 : q < 8
    · refine ⟨c.1, c.2.1, x3, x4, if_pos (nI_lt (b := 8) q8 (by omega)), if_neg (fun z => ?_), h, fun _ => q8⟩
      have := (nI_eq (b := 8) (by omega) (by omega)).mp z
      omega
    · refine ⟨5, c.2.2.2.2.1, 5, x6, ?_, ?_, Or.inr ⟨show (0 : Int32) < 5 by decide, rfl, pl⟩, fun z => absurd z (by decide)⟩
      · rw [if_neg (show ¬ nI q < (8 : Int32) from nI_nlt (b := 8) (by omega) (by omega))]; rfl
      · rw [if_pos (show nI q = (8 : Int32) by rw [show q = 8 by omega]; rfl)]
        unfold fX6_fails
        rw [if_pos h0]
        rfl
  obtain ⟨f1, f2, p, p', g1, g2, T0, g3⟩ := ninth
  obtain ⟨m1, n1, R1, k1⟩ := rd hT hC (lo' := lo + 1) T0 (Or.inr ⟨Nat.le_refl _, ht⟩)
  obtain ⟨v1, u1, c1, p1, p1', t1, s1, T1, D1⟩ := tnum R1 1 50 50 (fun _ => rfl)
  obtain ⟨m2, n2, R2, k2⟩ := rd hT hC (lo' := lo + 1) T1 (Or.inl (Nat.le_refl _))
  obtain ⟨v2, u2, c2, p2, p2', t2, s2, T2, D2⟩ := tnum R2 0 99 99 (fun _ => rfl)
  obtain ⟨m3, n3, R3, k3⟩ := rd hT hC (lo' := lo + 1) T2 (Or.inl (Nat.le_refl _))
  obtain ⟨v3, u3, c3, p3, p3', t3, s3, T3, D3⟩ := tnum R3 0 99 99 (fun _ => rfl)
  obtain ⟨m4, n4, R4, k4⟩ := rd hT hC (lo' := lo + 1) T3 (Or.inl (Nat.le_refl _))
  dsimp only at t1
  have hC5 : fX0_takeSort c.1 c.2.1 c.2.2.1 c.2.2.2.1 c.2.2.2.2.1 c.2.2.2.2.2 tb (nI n) r0 r1 r2 r3 r4 (nI q) = bd (fX2_add r0 r1 r2 r3 r4 (nI q) v1 v2 v3 (0 : Int32)) (fun t11 => some (c3.1, c3.2.1, c3.2.2.1, c3.2.2.2.1, c3.2.2.2.2.1, c3.2.2.2.2.2, t11.1, t11.2.1, t11.2.2.1, t11.2.2.2.1, t11.2.2.2.2.1, t11.2.2.2.2.2)) := by
    unfold fX0_takeSort
    rw [g1, bd_s]
    dsimp only
    rw [t1, bd_s]
    dsimp only
    rw [t2, bd_s]
    dsimp only
    rw [t3, bd_s]
  have hM6 : fX6_readSort mr cuts letters m13 (nI n) p p' x5 x6 x7 x8 (nI q) = if m4.1 = (0 : Int32) then (bd (fX6_layRowb m13 (nI q) u1 u2 u3 (0 : Int32)) (fun t16 => some (t16, m4.1, m4.2.1, m4.2.2.1, m4.2.2.2.1, m4.2.2.2.2.1, m4.2.2.2.2.2, (nI q + (1 : Int32))))) else (some (m13, m4.1, m4.2.1, m4.2.2.1, m4.2.2.2.1, m4.2.2.2.2.1, m4.2.2.2.2.2, nI q)) := by
    unfold fX6_readSort
    rw [n1, bd_s, s1, bd_s]
    dsimp only
    rw [n2, bd_s, s2, bd_s]
    dsimp only
    rw [n3, bd_s, s3, bd_s]
    dsimp only
    rw [n4, bd_s]
  by_cases z : m4.1 = 0
  · rcases D3 with ⟨y1, y2, y3, x, x1, rfl, rfl, x4', x5'⟩ | ⟨-, y2, -, -⟩
    · rcases D2 with ⟨-, y4, y5, xx, x6', rfl, rfl, x7', x8'⟩ | ⟨-, y2, -, -⟩
      · rcases D1 with ⟨-, y6, y7, xxx, x9', rfl, rfl, xa', xb'⟩ | ⟨-, y2, -, -⟩
        · have hq8 := g3 (k1 y7)
          have b1 := toI x1 x4' x5'
          have b2 := toI x6' x7' x8'
          have b3 := toI x9' xa' xb'
          have hO : ROne (nI xxx) (nI xx) (nI x) 0 0 := ⟨b3.1, b3.2, b2.1, b2.2, b1.1, b1.2, by decide, by decide, by decide, Int.le_trans (by decide) b3.1⟩
          refine ⟨p, p', c3, _, _, _, _, _, _, _, m4, _, by rw [hC5, add_ok hq8, bd_s], g2, by rw [hM6, if_pos z, lay_okb hq8, bd_s, nI_1], R4, fun _ => ⟨q + 1, hq8, rfl, rfl, added hq8 hS hO⟩⟩
        · exact absurd (k2 y5) (pos_ne y2)
      · exact absurd (k3 y3) (pos_ne y2)
    · exact absurd (k4 z) (pos_ne y2)
  · obtain ⟨a0, a1, a2, a3, a4, a5, ha⟩ := add_some hq r0 r1 r2 r3 r4 v1 v2 v3 0
    exact ⟨p, p', c3, a0, a1, a2, a3, a4, a5, m13, m4, nI q, by rw [hC5, ha, bd_s], g2, by rw [hM6, if_neg z], R4, fun y => absurd y z⟩
theorem clamp0 {s : Nat} (hs : s < 8) : (nI s).toNatClampNeg = s := nI_clamp (by omega)
theorem fail_two (hT : TP n tb mr g) (hC : RConst cuts letters) {lo q : Nat} (hq : q ≤ 8) {c : K6} {x3 x4 x5 x6 x7 x8 w w' : Int32} (h : TkR n lo c (x3, x4, x5, x6, x7, x8)) (ht : ¬ c.2.2.2.1 = 0) (hw : ToldR w w') {r0 r1 r2 r3 r4 m13 : Nat → Int32} (hS : SS q m13 r0 r1 r2 r3 r4) :
    ∃ (c1 : K6) (w1 : Int32) (a3 : Nat → Int32) (e13 : Nat → Int32) (m1 : K6) (e17 : Int32), fX0_takeFail c.1 c.2.1 c.2.2.1 w c.2.2.2.1 c.2.2.2.2.1 c.2.2.2.2.2 tb (nI n) r3 (nI q) = some (c1.1, c1.2.1, c1.2.2.1, w1, c1.2.2.2.1, c1.2.2.2.2.1, c1.2.2.2.2.2, a3) ∧
      fX6_readOf mr cuts letters m13 (nI n) x3 x4 x5 x6 x7 x8 (nI q) w' (nI 1) = some (e13, m1.1, m1.2.1, m1.2.2.1, m1.2.2.2.1, m1.2.2.2.2.1, m1.2.2.2.2.2, e17) ∧ NR tb n (lo + 1) c1 m1 ∧ (m1.1 = 0 → SS q e13 r0 r1 r2 a3 r4 ∧ ToldR w1 e17) := by
  obtain ⟨m1, n1, R1, k1⟩ := rd hT hC (lo' := lo + 1) h (Or.inr ⟨Nat.le_refl _, ht⟩)
  obtain ⟨v1, u1, c1, p1, p1', t1, s1, T1, D1⟩ := tnum R1 0 (nI q - 1) (nI q - 1) (fun _ => rfl)
  obtain ⟨s, f1, f2, w1, p, p', y, hs, hv, hu, g1, g2, g3, T0, g4⟩ := tellOf hq (o := 0) (a1 := nI 1) ⟨0, by omega, rfl, rfl⟩ T1 D1 hw
  obtain ⟨m2, n2, R2, k2⟩ := rd hT hC (lo' := lo + 1) T0 (Or.inl (Nat.le_refl _))
  obtain ⟨v2, u2, c2, p2, p2', t2, s2, T2, D2⟩ := tnum R2 0 10 10 (fun _ => rfl)
  obtain ⟨m3, n3, R3, k3⟩ := rd hT hC (lo' := lo + 1) T2 (Or.inl (Nat.le_refl _))
  dsimp only at t2
  have e5 : (5 : Int32) * nI s = nI (5 * s) := pk_mul 5 s
  have e53 : nI (5 * s) + (3 : Int32) = nI (5 * s + 3) := nI_add (5 * s) 3
  have hs5 : (if p2 = (0 : Int32) then (bd (if nI 1 = (1 : Int32) then (some (3 : Int32)) else (some (4 : Int32))) (fun t21 => ckI (((5 : Int32) * u1) + t21) 40 (some (upd m13 (((5 : Int32) * u1) + t21).toNatClampNeg u2)))) else some m13) = some (if p2 = 0 then upd m13 (5 * s + 3) u2 else m13) := by
    by_cases z : p2 = 0
    · rw [if_pos z, if_pos z, if_pos (show nI 1 = (1 : Int32) from rfl), bd_s, hu, e5, e53, ckI_nI (by omega) (by omega), nI_clamp (by omega)]
    · rw [if_neg z, if_neg z]
  refine ⟨c2, w1, upd r3 s v2, if p2 = 0 then upd m13 (5 * s + 3) u2 else m13, m3, w' ||| y, ?_, ?_, R3, fun z => ?_⟩
  · unfold fX0_takeFail
    rw [t1, bd_s]
    dsimp only
    rw [g1, bd_s]
    dsimp only
    rw [t2, bd_s, hv, ckI_nI hs (by omega), clamp0 hs]
  · unfold fX6_readOf
    rw [n1, bd_s, s1, bd_s]
    dsimp only
    rw [g2, bd_s]
    dsimp only
    rw [g3, bd_s, n2, bd_s, if_pos (show nI 1 = (1 : Int32) from rfl), bd_s, s2, bd_s]
    dsimp only
    rw [hs5, bd_s, n3, bd_s]
  · rcases D2 with ⟨y1, y2, y3, x, x1, rfl, rfl, x4', x5'⟩ | ⟨-, y2, -, -⟩
    · obtain ⟨hsq, hw'⟩ := g4 (k2 y3)
      obtain ⟨-, -, -, -, -, o1, o2, o3, o4, o5, o6, o7, o8, o9, o10⟩ := hS s hsq
      have b := toI x1 x4' x5'
      rw [if_pos y2]
      exact ⟨SS_upd3 hS hsq ⟨o1, o2, o3, o4, o5, o6, b.1, b.2, o9, o10⟩, hw'⟩
    · exact absurd (k3 z) (pos_ne y2)
theorem must_two (hT : TP n tb mr g) (hC : RConst cuts letters) {lo q : Nat} (hq : q ≤ 8) {c : K6} {x3 x4 x5 x6 x7 x8 w w' : Int32} (h : TkR n lo c (x3, x4, x5, x6, x7, x8)) (ht : ¬ c.2.2.2.1 = 0) (hw : ToldR w w') {r0 r1 r2 r3 r4 m13 : Nat → Int32} (hS : SS q m13 r0 r1 r2 r3 r4) :
    ∃ (c1 : K6) (w1 : Int32) (a4 : Nat → Int32) (e13 : Nat → Int32) (m1 : K6) (e17 : Int32), fX0_takeMust c.1 c.2.1 c.2.2.1 w c.2.2.2.1 c.2.2.2.2.1 c.2.2.2.2.2 tb (nI n) r0 r4 (nI q) = some (c1.1, c1.2.1, c1.2.2.1, w1, c1.2.2.2.1, c1.2.2.2.2.1, c1.2.2.2.2.2, a4) ∧
      fX6_readOf mr cuts letters m13 (nI n) x3 x4 x5 x6 x7 x8 (nI q) w' (nI 2) = some (e13, m1.1, m1.2.1, m1.2.2.1, m1.2.2.2.1, m1.2.2.2.2.1, m1.2.2.2.2.2, e17) ∧ NR tb n (lo + 1) c1 m1 ∧ (m1.1 = 0 → SS q e13 r0 r1 r2 r3 a4 ∧ ToldR w1 e17) := by
  obtain ⟨m1, n1, R1, k1⟩ := rd hT hC (lo' := lo + 1) h (Or.inr ⟨Nat.le_refl _, ht⟩)
  obtain ⟨v1, u1, c1, p1, p1', t1, s1, T1, D1⟩ := tnum R1 0 (nI q - 1) (nI q - 1) (fun _ => rfl)
  obtain ⟨s, f1, f2, w1, p, p', y, hs, hv, hu, g1, g2, g3, T0, g4⟩ := tellOf hq (o := 8) (a1 := nI 2) ⟨1, by omega, rfl, rfl⟩ T1 D1 hw
  obtain ⟨m2, n2, R2, k2⟩ := rd hT hC (lo' := lo + 1) T0 (Or.inl (Nat.le_refl _))
  have hU : m2.1 = 0 → r0 s = (if m2.1 ≤ 0 then m13 (5 * s) else 10) := fun z => by
    rw [if_pos (by rw [z]; decide)]
    exact ((hS s (g4 (k2 z)).1).1).symm
  obtain ⟨v2, u2, c2, p2, p2', t2, s2, T2, D2⟩ := tnum R2 0 (r0 s) (if m2.1 ≤ 0 then m13 (5 * s) else 10) hU
  obtain ⟨m3, n3, R3, k3⟩ := rd hT hC (lo' := lo + 1) T2 (Or.inl (Nat.le_refl _))
  dsimp only at t2
  have e5 : (5 : Int32) * nI s = nI (5 * s) := pk_mul 5 s
  have e50 : nI (5 * s) + (0 : Int32) = nI (5 * s) := nI_add (5 * s) 0
  have e54 : nI (5 * s) + (4 : Int32) = nI (5 * s + 4) := nI_add (5 * s) 4
  have hs4 : (if m2.1 ≤ (0 : Int32) then (ckI (((5 : Int32) * u1) + (0 : Int32)) 40 (some (m13 (((5 : Int32) * u1) + (0 : Int32)).toNatClampNeg))) else (some (10 : Int32))) = some (if m2.1 ≤ 0 then m13 (5 * s) else 10) := by
    by_cases z : m2.1 ≤ 0
    · rw [if_pos z, if_pos z, hu, e5, e50, ckI_nI (by omega) (by omega), nI_clamp (by omega)]
    · rw [if_neg z, if_neg z]
  have hs5 : (if p2 = (0 : Int32) then (bd (if nI 2 = (1 : Int32) then (some (3 : Int32)) else (some (4 : Int32))) (fun t21 => ckI (((5 : Int32) * u1) + t21) 40 (some (upd m13 (((5 : Int32) * u1) + t21).toNatClampNeg u2)))) else some m13) = some (if p2 = 0 then upd m13 (5 * s + 4) u2 else m13) := by
    by_cases z : p2 = 0
    · rw [if_pos z, if_pos z, if_neg (show ¬ nI 2 = (1 : Int32) by decide), bd_s, hu, e5, e54, ckI_nI (by omega) (by omega), nI_clamp (by omega)]
    · rw [if_neg z, if_neg z]
  refine ⟨c2, w1, upd r4 s v2, if p2 = 0 then upd m13 (5 * s + 4) u2 else m13, m3, w' ||| y, ?_, ?_, R3, fun z => ?_⟩
  · unfold fX0_takeMust
    rw [t1, bd_s]
    dsimp only
    rw [g1, bd_s]
    dsimp only
    rw [hv, ckI_nI hs (by omega), clamp0 hs, t2, bd_s, ckI_nI hs (by omega)]
  · unfold fX6_readOf
    rw [n1, bd_s, s1, bd_s]
    dsimp only
    rw [g2, bd_s]
    dsimp only
    rw [g3, bd_s, n2, bd_s, if_neg (show ¬ nI 2 = (1 : Int32) by decide), hs4, bd_s, s2, bd_s]
    dsimp only
    rw [hs5, bd_s, n3, bd_s]
  · rcases D2 with ⟨y1, y2, y3, x, x1, rfl, rfl, x4', x5'⟩ | ⟨-, y2, -, -⟩
    · obtain ⟨hsq, hw'⟩ := g4 (k2 y3)
      obtain ⟨-, -, -, -, -, o1, o2, o3, o4, o5, o6, o7, o8, o9, o10⟩ := hS s hsq
      have b := toI x1 x4' x5'
      rw [if_pos y2]
      exact ⟨SS_upd4 hS hsq ⟨o1, o2, o3, o4, o5, o6, o7, o8, b.1, b.2⟩, hw'⟩
    · exact absurd (k3 z) (pos_ne y2)
end Tape
end TextC
