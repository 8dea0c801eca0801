section RestA
theorem offer_c (k w : Int32) : (VO k w ∧ fX5_isOffer k w = some 1) ∨ fX5_isOffer k w = some 0 := by
  unfold fX5_isOffer
  rcases isW_c k 0 4 with ⟨h1, h2, e1⟩ | ⟨h, e1⟩
  · rw [e1, bd_s, if_neg (by decide)]
    rw [fa_le] at h1 h2
    by_cases c : k = 3
    · rw [if_pos c, bd_s]
      rcases isW_c w 0 10 with ⟨h3, h4, e2⟩ | ⟨h, e2⟩
      · left
        rw [fa_le] at h3 h4
        exact ⟨⟨h1, h2, h3, Int.le_trans h4 (by decide), fun _ => h4⟩, by rw [e2, bd_s, if_neg (by decide)]⟩
      · right; rw [e2, bd_s, if_pos rfl]
    · rw [if_neg c, bd_s]
      rcases isW_c w 0 99 with ⟨h3, h4, e2⟩ | ⟨h, e2⟩
      · left
        rw [fa_le] at h3 h4
        exact ⟨⟨h1, h2, h3, h4, fun q => absurd q c⟩, by rw [e2, bd_s, if_neg (by decide)]⟩
      · right; rw [e2, bd_s, if_pos rfl]
  · right; rw [e1, bd_s, if_pos rfl]
theorem price_c (p : Int32) : (VP p ∧ fX5_isPrice p = some 1) ∨ fX5_isPrice p = some 0 := by
  unfold fX5_isPrice
  rcases isW_c p 0 99 with ⟨h1, h2, e1⟩ | ⟨h, e1⟩
  · left
    rw [fa_le] at h1 h2
    exact ⟨⟨h1, h2⟩, by rw [e1, bd_s, ckB_1]⟩
  · right; rw [e1, bd_s, ckB_0]
def rB (Q : Stk) (k w p : Int32) : Bool := decide (0 < (oParts Q k w p).toInt) && decide (p.toInt * (10 * (oParts Q k w p).toInt) ≤ (oTenths Q k w p).toInt)
theorem rB_iff {Q : Stk} {k w p : Int32} : rB Q k w p = true ↔ 0 < (oParts Q k w p).toInt ∧ p.toInt * (10 * (oParts Q k w p).toInt) ≤ (oTenths Q k w p).toInt := by
  unfold rB; simp
theorem tenths_b {Q : Stk} (h : SB Q) {k w p : Int32} (hk : VO k w) : -64000000 ≤ (oTenths Q k w p).toInt ∧ (oTenths Q k w p).toInt ≤ 633600000 := by
  have a := ten_b h (p := p) hk
  have b := pay_b h (k := k) (w := w) (p := p)
  rw [tenths_i h hk]; omega
theorem gained_b {Q : Stk} (h : SB Q) {k w p : Int32} (hk : VO k w) : -38080000 ≤ (oGained Q k w p).toInt ∧ (oGained Q k w p).toInt ≤ 31680000 := by
  have a := gai_b h (p := p) hk
  have b := pay_b h (k := k) (w := w) (p := p)
  rw [gained_i h hk]; omega
theorem shares_i {Q : Stk} (h : SB Q) {k w p : Int32} (hk : VO k w) : ((10 : Int32) * oParts Q k w p).toInt = 10 * (oParts Q k w p).toInt := by
  have a := parts_i h (p := p) hk
  exact (mulB (x := 10) (y := oParts Q k w p) 10 320000 (by decide) (by decide) (by omega) (by omega) (by omega) (by omega)).1
theorem lack_i {Q : Stk} (h : SB Q) {k w p q : Int32} (hk : VO k w) (hq : VP q) : (q * ((10 : Int32) * oParts Q k w p) - oTenths Q k w p).toInt = q.toInt * (10 * (oParts Q k w p).toInt) - (oTenths Q k w p).toInt := by
  have a := parts_i h (p := p) hk
  have b := shares_i h (p := p) hk
  have c := tenths_b h (p := p) hk
  have m := mulB (x := q) (y := (10 : Int32) * oParts Q k w p) 99 3200000 hq.1 hq.2 (by omega) (by rw [b]; omega) (by rw [b]; omega) (by omega)
  rw [b] at m
  have n := mb1 hq.1 hq.2 (by omega : (0 : Int) ≤ 10 * (oParts Q k w p).toInt) (by omega : 10 * (oParts Q k w p).toInt ≤ 3200000)
  rw [fb_subI (by rw [m.1]; omega) (by rw [m.1]; omega), m.1]
theorem holds5 {Q : Stk} (h : SB Q) {k w p : Int32} (hk : VO k w) (hp : VP p) : fX4_holdsAt (oParts Q k w p) (oTenths Q k w p) p = some (if rB Q k w p then 1 else 0) := by
  unfold fX4_holdsAt fX4_lackAt fX4_shares
  have z : (0 : Int32).toInt = 0 := rfl
  by_cases c : oParts Q k w p ≤ 0
  · rw [if_pos c, if_neg]
    rw [rB_iff]; rw [fa_le, z] at c; omega
  · rw [if_neg c, bd_s, bd_s]
    rw [fa_le, z] at c
    by_cases d : 0 < p * ((10 : Int32) * oParts Q k w p) - oTenths Q k w p
    · rw [if_pos d, if_neg]
      rw [rB_iff]; rw [fa_lt, z, lack_i h hk hp] at d; omega
    · rw [if_neg d, if_pos]
      rw [rB_iff]; rw [fa_lt, z, lack_i h hk hp] at d; omega
theorem toI32 {x : Int64} {y : Int32} (h : x.toInt = y.toInt) : x.toInt32 = y := by
  apply Int32.toInt_inj.mp
  have r := fb_rng y
  rw [Int64.toInt_toInt32, h, fb_bmod r.1 r.2]
/-- the reference's doesRest -/
theorem rest6 {n : Nat} {sorts rules many has would fail must : Nat → Int32} {mark look pay : Int32} (hS : SS n sorts many has would fail must) (hB : SB (n, many, has, would, fail, must, mark, look, pay)) (r0 : rules 0 = mark) (r1 : rules 1 = look) (r2 : rules 2 = pay) (c0 s0 : Nat → Int32) {k w p : Int32} (hk : VO k w) (hp : VP p) :
    ∃ tu td gl cm so, fX6_doesRest sorts rules c0 s0 (nI n) (-4) k w p = some (if rB (n, many, has, would, fail, must, mark, look, pay) k w p then 1 else 0, tu, td, gl, cm, so, oWhole (n, many, has, would, fail, must, mark, look, pay) k w p, oHorses (n, many, has, would, fail, must, mark, look, pay) k w p, oParts (n, many, has, would, fail, must, mark, look, pay) k w p) ∧
      tu.toInt = (oTenths (n, many, has, would, fail, must, mark, look, pay) k w p).toInt ∧ td.toInt = 10 * (oParts (n, many, has, would, fail, must, mark, look, pay) k w p).toInt ∧ gl.toInt = (oGained (n, many, has, would, fail, must, mark, look, pay) k w p).toInt ∧ ∀ s, s < n → so s = oSa (n, many, has, would, fail, must, mark, look, pay) k w p s := by
  obtain ⟨tu, td, gl, cm, so, h1, h2, h3, h4, h5⟩ := lay6 hS hB r0 r1 r2 c0 s0 hk hp
  refine ⟨tu, td, gl, cm, so, ?_, h2, h3, h4, h5⟩
  unfold fX6_doesRest
  rw [h1, bd_s]
  dsimp only
  generalize ((n, many, has, would, fail, must, mark, look, pay) : Stk) = Q at hB h2 h3 ⊢
  have z : (0 : Int32).toInt = 0 := rfl
  have pi := parts_i hB (p := p) hk
  by_cases c : oParts Q k w p ≤ 0
  · rw [if_pos c, if_neg]
    rw [rB_iff]; rw [fa_le, z] at c; omega
  · rw [if_neg c]
    rw [fa_le, z] at c
    have m := mulL (x := p.toInt64) (y := td) 99 3200000 (by rw [toL]; exact hp.1) (by rw [toL]; exact hp.2) (by omega) (by omega) (by omega) (by omega)
    rw [toL, h3] at m
    by_cases d : lg_cmp tu (p.toInt64 * td) < 0
    · rw [if_pos d, if_neg]
      rw [rB_iff]; rw [cmp_lt, fa_lt64, m.1, h2] at d; omega
    · rw [if_neg d, if_pos]
      rw [rB_iff]; rw [cmp_lt, fa_lt64, m.1, h2] at d; omega
theorem vp_nI {i : Nat} (h : i < 100) : VP (nI i) := by
  have e := nI_toInt (n := i) (by omega)
  unfold VP; rw [e]; omega
end RestA
