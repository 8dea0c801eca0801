section PureB
theorem one0 : ((1 : Int32) = 0) = False := eq_false (by decide)
theorem rngN {x : Int32} {n : Nat} (h1 : 0 ≤ x) (h2 : x ≤ nI n) (hn : n < 2 ^ 31) : ∃ j, j ≤ n ∧ x = nI j := by
  obtain ⟨j, hj, rfl⟩ := nI_of (x := x) (by rw [fa_lt]; rw [fa_le] at h1; omega)
  exact ⟨j, (nI_leI hj hn).mp h2, rfl⟩
theorem isSort_c {n : Nat} (hn : n ≤ 8) (a : Int32) : (∃ j, j < n ∧ a = nI j ∧ fX5_isSort (nI n) a = some 1) ∨ fX5_isSort (nI n) a = some 0 := by
  unfold fX5_isSort
  rcases isW_c a 0 (nI n - 1) with ⟨h1, h2, e⟩ | ⟨h, e⟩
  · left
    obtain ⟨j, hj, rfl⟩ := nI_of (x := a) (by rw [fa_lt]; rw [fa_le] at h1; omega)
    have e1 : (nI n - 1).toInt = (n : Int) - 1 := pk_sub_toInt (a := n) (b := 1) (by omega) (by omega)
    rw [fa_le, e1, nI_toInt hj] at h2
    exact ⟨j, by omega, rfl, by rw [e, bd_s, ckB_1]⟩
  · right
    rw [e, bd_s, ckB_0]
theorem its_eq {r : Nat → Int32} {j k : Nat} (hj : j < 8) (hk : k < 5) : fX6_its r (nI j) (nI k) = some (r (5 * j + k)) := by
  unfold fX6_its
  rw [show (5 : Int32) * nI j + nI k = nI (5 * j + k) by rw [show (5 : Int32) * nI j = nI (5 * j) from pk_mul 5 j, nI_add], ckI_nI (by omega) (by omega), nI_clamp (by omega)]
theorem good6 {r rules would : Nat → Int32} {mark : Int32} {j : Nat} (hj : j < 8) (h2 : r (5 * j + 2) = would j) (h0 : rules 0 = mark) : fX6_isGood r rules (nI j) = fX2_isGood would mark (nI j) := by
  unfold fX6_isGood fX2_isGood
  rw [show (2 : Int32) = nI 2 from rfl, its_eq hj (by omega), ckI_nI hj (by omega), nI_clamp (by omega), bd_s, h2]
  show (if would j < rules 0 then _ else _) = _
  rw [h0]
theorem good_c (would : Nat → Int32) (mark : Int32) {j : Nat} (hj : j < 8) : fX2_isGood would mark (nI j) = some 0 ∨ fX2_isGood would mark (nI j) = some 1 := by
  unfold fX2_isGood
  rw [ckI_nI hj (by omega)]
  by_cases h : would (nI j).toNatClampNeg < mark
  · rw [if_pos h]; exact Or.inl rfl
  · rw [if_neg h]; exact Or.inr rfl
theorem told_c (a b c d : Int32) : (ROne a b c d 0 ∧ fX5_isSortAsTold a b c d = some 1) ∨ fX5_isSortAsTold a b c d = some 0 := by
  unfold fX5_isSortAsTold
  rcases isW_c a 1 50 with ⟨p1, p2, e1⟩ | ⟨h, e1⟩
  · rcases isW_c b 0 99 with ⟨p3, p4, e2⟩ | ⟨h, e2⟩
    · rcases isW_c c 0 99 with ⟨p5, p6, e3⟩ | ⟨h, e3⟩
      · rcases isW_c d 0 10 with ⟨p7, p8, e4⟩ | ⟨h, e4⟩
        · left
          rw [fa_le] at p1 p2 p3 p4 p5 p6 p7 p8
          refine ⟨⟨p1, p2, p3, p4, p5, p6, p7, p8, by decide, ?_⟩, by rw [e1, bd_s, if_neg (by decide), e2, bd_s, if_neg (by decide), e3, bd_s, if_neg (by decide), e4, bd_s, if_neg (by decide)]⟩
          exact Int.le_trans (by decide) p1
        · right
          rw [e1, bd_s, if_neg (by decide), e2, bd_s, if_neg (by decide), e3, bd_s, if_neg (by decide), e4, bd_s, if_pos rfl]
      · right
        rw [e1, bd_s, if_neg (by decide), e2, bd_s, if_neg (by decide), e3, bd_s, if_pos rfl]
    · right
      rw [e1, bd_s, if_neg (by decide), e2, bd_s, if_pos rfl]
  · right
    rw [e1, bd_s, if_pos rfl]
theorem add_ok {n : Nat} (h : n < 8) {r0 r1 r2 r3 r4 : Nat → Int32} {a b c d : Int32} : fX2_add r0 r1 r2 r3 r4 (nI n) a b c d = some (upd r0 n a, upd r1 n b, upd r2 n c, upd r3 n d, upd r4 n 0, nI (n + 1)) := by
  unfold fX2_add
  have e1 : ¬ (8 : Int32) ≤ nI n := fun q => absurd ((nI_leI (a := 8) (by omega) (by omega)).mp q) (by omega)
  simp only [if_neg e1, ckI_nI h (by omega : (8 : Nat) < 2 ^ 31), nI_clamp (show n < 2 ^ 31 by omega), nI_1]
theorem lay_ok {n : Nat} (h : n < 8) {r : Nat → Int32} {a b c d : Int32} : fX6_layRowa r (nI n) a b c d = some (upd (upd (upd (upd (upd r (5 * n) a) (5 * n + 1) b) (5 * n + 2) c) (5 * n + 3) d) (5 * n + 4) 0) := by
  unfold fX6_layRowa
  have e0 : (5 : Int32) * nI n = nI (5 * n) := pk_mul 5 n
  have e1 : nI (5 * n) + (1 : Int32) = nI (5 * n + 1) := nI_add (5 * n) 1
  have e2 : nI (5 * n) + (2 : Int32) = nI (5 * n + 2) := nI_add (5 * n) 2
  have e3 : nI (5 * n) + (3 : Int32) = nI (5 * n + 3) := nI_add (5 * n) 3
  have e4 : nI (5 * n) + (4 : Int32) = nI (5 * n + 4) := nI_add (5 * n) 4
  simp only [e0, e1, e2, e3, e4, ckI_nI (show 5 * n < 40 by omega) (by omega : (40 : Nat) < 2 ^ 31), ckI_nI (show 5 * n + 1 < 40 by omega) (by omega : (40 : Nat) < 2 ^ 31), ckI_nI (show 5 * n + 2 < 40 by omega) (by omega : (40 : Nat) < 2 ^ 31), ckI_nI (show 5 * n + 3 < 40 by omega) (by omega : (40 : Nat) < 2 ^ 31), ckI_nI (show 5 * n + 4 < 40 by omega) (by omega : (40 : Nat) < 2 ^ 31), nI_clamp (show 5 * n < 2 ^ 31 by omega), nI_clamp (show 5 * n + 1 < 2 ^ 31 by omega), nI_clamp (show 5 * n + 2 < 2 ^ 31 by omega), nI_clamp (show 5 * n + 3 < 2 ^ 31 by omega), nI_clamp (show 5 * n + 4 < 2 ^ 31 by omega)]
abbrev SS (n : Nat) (sorts many has would fail must : Nat → Int32) : Prop := ∀ s, s < n → sorts (5 * s) = many s ∧ sorts (5 * s + 1) = has s ∧ sorts (5 * s + 2) = would s ∧ sorts (5 * s + 3) = fail s ∧ sorts (5 * s + 4) = must s ∧ ROne (many s) (has s) (would s) (fail s) (must s)
theorem upd_at (f : Nat → Int32) (k : Nat) (x : Int32) (j : Nat) : upd f k x j = if j = k then x else f j := rfl
theorem added {n : Nat} (hn : n < 8) {sorts many has would fail must : Nat → Int32} {a b c d : Int32} (h : SS n sorts many has would fail must) (hb : ROne a b c d 0) :
    SS (n + 1) (upd (upd (upd (upd (upd sorts (5 * n) a) (5 * n + 1) b) (5 * n + 2) c) (5 * n + 3) d) (5 * n + 4) 0) (upd many n a) (upd has n b) (upd would n c) (upd fail n d) (upd must n 0) := by
  intro s hs
  simp only [upd_at]
  by_cases e : s = n
  · subst e
    simp only [if_true]
    refine ⟨?_, ?_, ?_, ?_, ?_, hb⟩
    · rw [if_neg (by omega), if_neg (by omega), if_neg (by omega), if_neg (by omega)]
    · rw [if_neg (by omega), if_neg (by omega), if_neg (by omega)]
    · rw [if_neg (by omega), if_neg (by omega)]
    · rw [if_neg (by omega)]
    · trivial
  · obtain ⟨g0, g1, g2, g3, g4, g5⟩ := h s (by omega)
    simp only [if_neg e]
    refine ⟨?_, ?_, ?_, ?_, ?_, g5⟩
    · rw [if_neg (by omega), if_neg (by omega), if_neg (by omega), if_neg (by omega), if_neg (by omega)]; exact g0
    · rw [if_neg (by omega), if_neg (by omega), if_neg (by omega), if_neg (by omega), if_neg (by omega)]; exact g1
    · rw [if_neg (by omega), if_neg (by omega), if_neg (by omega), if_neg (by omega), if_neg (by omega)]; exact g2
    · rw [if_neg (by omega), if_neg (by omega), if_neg (by omega), if_neg (by omega), if_neg (by omega)]; exact g3
    · rw [if_neg (by omega), if_neg (by omega), if_neg (by omega), if_neg (by omega), if_neg (by omega)]; exact g4
end PureB
