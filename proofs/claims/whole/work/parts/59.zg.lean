section LearnG
theorem si_mono {f g : Nat → Int} : ∀ {n : Nat}, (∀ s, s < n → f s ≤ g s) → fb_si f n ≤ fb_si g n
  | 0, _ => Int.le_refl _
  | n + 1, h => by
    have a := si_mono (n := n) (fun s hs => h s (by omega))
    have b := h n (by omega)
    show fb_si f n + f n ≤ fb_si g n + g n
    omega
theorem si_mulr {f : Nat → Int} {c : Int} : ∀ {n : Nat}, fb_si (fun s => f s * c) n = fb_si f n * c
  | 0 => by show (0 : Int) = 0 * c; omega
  | n + 1 => by
    show fb_si (fun s => f s * c) n + f n * c = (fb_si f n + f n) * c
    rw [si_mulr, Int.add_mul]
theorem think_b {Q : Stk} (hB : SB Q) {p : Int32} : 0 ≤ (oTenths Q 0 0 p).toInt ∧ (oTenths Q 0 0 p).toInt ≤ (oParts Q 0 0 p).toInt * 990 := by
  have hk : VO (0 : Int32) (0 : Int32) := ⟨by decide, by decide, by decide, by decide, by decide⟩
  rw [tenths_i hB hk, (parts_i hB hk).1]
  have e : payI Q 0 0 p = 0 := by unfold payI; rw [if_neg (by decide)]
  rw [e]
  have h1 := (ten_b hB (p := p) hk).1
  refine ⟨by omega, ?_⟩
  have h2 : tenI Q 0 0 p ≤ fb_si (fun s => (oSa Q 0 0 p s).toInt * 990) Q.1 := by
    unfold tenI
    refine si_mono (fun s hs => ?_)
    have a := (sa_b hB (p := p) hk hs).2.1
    have b := (va_b hB hk hs).1
    rw [if_neg (by decide)] at b
    have c := hB.2.1 s hs
    unfold ROne at c
    exact Int.mul_le_mul_of_nonneg_left (by omega) a
  rw [si_mulr] at h2
  omega
theorem learn_two {n : Nat} {sorts rules many has would fail must : Nat → Int32} {mark look pay keen : Int32} (hS : SS n sorts many has would fail must) (hB : SB (n, many, has, would, fail, must, mark, look, pay)) (r0 : rules 0 = mark) (r1 : rules 1 = look) (r2 : rules 2 = pay) (r3 : rules 3 = keen) (k1 : 1 ≤ keen.toInt) (k2 : keen.toInt ≤ 10) (r c0 s0 : Nat → Int32) {p : Int32} (hp : VP p) :
    ∃ q t t', VP q ∧ fX5_priceLearned many has would fail must (nI n) mark look pay keen r p = some (q, t) ∧ fX6_learnt sorts rules c0 s0 (nI n) (-4) p = some (q, t') := by
  have hk : VO (0 : Int32) (0 : Int32) := ⟨by decide, by decide, by decide, by decide, by decide⟩
  have hn : n ≤ 8 := hB.1
  obtain ⟨pf, g1, -⟩ := make5 hn many has would fail must mark look pay r 0 0 p
  obtain ⟨tu, td, gl, cm, so, g2, d2, d3, d4, d5⟩ := lay6 hS hB r0 r1 r2 c0 s0 hk hp
  have tb := think_b hB (p := p)
  obtain ⟨-, pb1, pb2⟩ := parts_i hB (p := p) hk
  have sh := shares_i hB (p := p) hk
  unfold fX5_priceLearned fX6_learnt
  rw [g1, g2, bd_s, bd_s]
  dsimp only
  generalize oTenths (n, many, has, would, fail, must, mark, look, pay) 0 0 p = te at *
  generalize oParts (n, many, has, would, fail, must, mark, look, pay) 0 0 p = pa at *
  have y0 : (0 : Int32).toInt = 0 := rfl
  have y10 : (10 : Int32).toInt = 10 := rfl
  have y0l : (0 : Int64).toInt = 0 := rfl
  obtain ⟨hp1, hp2⟩ := id hp
  have key : ∀ th : Int32, 0 ≤ th.toInt → th.toInt ≤ 99 → ∃ q, VP q ∧ fJ9_floorDiv_7cf53 (keen * th + (10 - keen) * p) 10 = some q ∧ (rules (3 : Int32).toNatClampNeg * th + (10 - rules (3 : Int32).toNatClampNeg) * p) / 10 = q := by
    intro th t1 t2
    have e3 : rules (3 : Int32).toNatClampNeg = keen := r3
    have a0 : ((10 : Int32) - keen).toInt = 10 - keen.toInt := by rw [fb_subI (by rw [y10]; omega) (by rw [y10]; omega), y10]
    have w1 : 0 ≤ keen.toInt * th.toInt := Int.mul_nonneg (by omega) t1
    have w2 : keen.toInt * th.toInt ≤ keen.toInt * 99 := Int.mul_le_mul_of_nonneg_left t2 (by omega)
    have w3 : 0 ≤ (10 - keen.toInt) * p.toInt := Int.mul_nonneg (by omega) hp1
    have w4 : (10 - keen.toInt) * p.toInt ≤ (10 - keen.toInt) * 99 := Int.mul_le_mul_of_nonneg_left hp2 (by omega)
    have a1 : (keen * th).toInt = keen.toInt * th.toInt := fb_mulI (by omega) (by omega)
    have a2 : (((10 : Int32) - keen) * p).toInt = (10 - keen.toInt) * p.toInt := by rw [fb_mulI (by rw [a0]; omega) (by rw [a0]; omega), a0]
    have a3 : (keen * th + (10 - keen) * p).toInt = keen.toInt * th.toInt + (10 - keen.toInt) * p.toInt := by rw [fb_addI (by rw [a1, a2]; omega) (by rw [a1, a2]; omega), a1, a2]
    obtain ⟨q, f1, f2⟩ := fdiv_nn (a := keen * th + (10 - keen) * p) (b := 10) (by rw [a3]; omega) (by decide)
    refine ⟨q, ?_, f1, ?_⟩
    · unfold VP; rw [f2, a3, y10]; omega
    · rw [e3]
      refine eq32 ?_
      rw [f2, div32 (by decide), Int.tdiv_eq_ediv_of_nonneg (by rw [a3]; omega)]
  by_cases c : pa ≤ 0
  · have c' := c
    rw [fa_le, y0] at c'
    have c2 : pa = 0 := eq32 (by rw [y0]; omega)
    obtain ⟨q, v1, v2, v3⟩ := key 0 (by decide) (by decide)
    unfold fX4_thoughtDown
    rw [if_pos c, if_pos c2, bd_s, bd_s, v2, bd_s, v3]
    exact ⟨q, _, _, v1, rfl, rfl⟩
  · have c' := c
    rw [fa_le, y0] at c'
    have c2 : ¬ pa = 0 := by intro q; rw [q, y0] at c'; omega
    unfold fX4_thoughtDown fX4_shares
    rw [if_neg c, if_neg c2]
    obtain ⟨th, f1, f2⟩ := fdiv_nn (a := te) (b := 10 * pa) (by omega) (by rw [sh]; omega)
    have f3 : (tu / td).toInt32 = th := by
      refine toI32 ?_
      rw [div64 (by omega), Int.tdiv_eq_ediv_of_nonneg (by omega), f2, sh, d2, d3]
    have f4 : 0 ≤ th.toInt := by rw [f2]; exact Int.ediv_nonneg (by omega) (by omega)
    have f5 : th.toInt ≤ 99 := by
      rw [f2, sh]
      have : te.toInt / (10 * pa.toInt) < 100 := Int.ediv_lt_of_lt_mul (by omega) (by omega)
      omega
    obtain ⟨q, v1, v2, v3⟩ := key th f4 f5
    rw [bd_s, f1, bd_s, bd_s, v2, bd_s, ckL_ok (by intro q; rw [q, y0l] at d3; omega), bd_s, f3, v3]
    exact ⟨q, _, _, v1, rfl, rfl⟩
end LearnG
