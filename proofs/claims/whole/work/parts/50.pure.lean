section Pure
theorem bd_s {α β : Type} (t : α) (f : α → Option β) : bd (some t) f = f t := rfl
theorem ckI_in {α : Type} {i : Int32} {n : Nat} (h : vp_in i n) (x : Option α) : ckI i n x = x := if_neg h
theorem ckI_nI {α : Type} {k n : Nat} (h : k < n) (hn : n < 2 ^ 31) (x : Option α) : ckI (nI k) n x = x := if_neg (vp_in_nI h hn)
theorem ckN_ok {α : Type} {y : Int32} (h : ¬ y = 0) (x : Option α) : ckN y x = x := if_neg h
theorem ckL_ok {α : Type} {y : Int64} (h : ¬ y = 0) (x : Option α) : ckL y x = x := if_neg h
theorem ckB_ok {α : Type} {y : Int32} (h : y = 0 ∨ y = 1) (x : Option α) : ckB y x = x := if_pos h
theorem ckB_0 {α : Type} (x : Option α) : ckB 0 x = x := if_pos (Or.inl rfl)
theorem ckB_1 {α : Type} (x : Option α) : ckB 1 x = x := if_pos (Or.inr rfl)
/-- loops by an invariant: at most N steps, an end that may come early -/
theorem loop_or {V T : Type} (B : V → Option (V ⊕ T)) (inv : Nat → V → Prop) (P : T → Prop) (N : Nat)
    (hs : ∀ k v, k < N → inv k v → (∃ v', B v = some (.inl v') ∧ inv (k + 1) v') ∨ ∃ t, B v = some (.inr t) ∧ P t)
    (he : ∀ v, inv N v → ∃ t, B v = some (.inr t) ∧ P t) : ∀ (d k : Nat) (v : V) (n : Nat), k + d = N → d < n → inv k v → ∃ t, loopF B n v = some t ∧ P t := by
  intro d
  induction d with
  | zero =>
    intro k v n hk hn hv
    obtain ⟨n, rfl⟩ : ∃ m, n = m + 1 := ⟨n - 1, by omega⟩
    obtain ⟨t, h1, h2⟩ := he v (by rw [← hk]; exact hv)
    exact ⟨t, by show bd (B v) _ = _; rw [h1]; rfl, h2⟩
  | succ d ih =>
    intro k v n hk hn hv
    obtain ⟨n, rfl⟩ : ∃ m, n = m + 1 := ⟨n - 1, by omega⟩
    rcases hs k v (by omega) hv with ⟨v', h1, h2⟩ | ⟨t, h1, h2⟩
    · obtain ⟨t, h3, h4⟩ := ih (k + 1) v' n (by omega) (by omega) h2
      exact ⟨t, by show bd (B v) _ = _; rw [h1]; exact h3, h4⟩
    · exact ⟨t, by show bd (B v) _ = _; rw [h1]; rfl, h2⟩
theorem loop_to {V T : Type} (B : V → Option (V ⊕ T)) (inv : Nat → V → Prop) (P : T → Prop) (N : Nat) {v : V} (hN : N < 1000) (h0 : inv 0 v)
    (hs : ∀ k v, k < N → inv k v → ∃ v', B v = some (.inl v') ∧ inv (k + 1) v')
    (he : ∀ v, inv N v → ∃ t, B v = some (.inr t) ∧ P t) : ∃ t, loopF B 1000 v = some t ∧ P t :=
  loop_or B inv P N (fun k v h1 h2 => Or.inl (hs k v h1 h2)) he N 0 v 1000 (by omega) hN h0
theorem loop_ot {V T : Type} (B : V → Option (V ⊕ T)) (inv : Nat → V → Prop) (P : T → Prop) (N : Nat) {v : V} (hN : N < 1000) (h0 : inv 0 v)
    (hs : ∀ k v, k < N → inv k v → (∃ v', B v = some (.inl v') ∧ inv (k + 1) v') ∨ ∃ t, B v = some (.inr t) ∧ P t)
    (he : ∀ v, inv N v → ∃ t, B v = some (.inr t) ∧ P t) : ∃ t, loopF B 1000 v = some t ∧ P t :=
  loop_or B inv P N hs he N 0 v 1000 (by omega) hN h0
/-- within bounds -/
theorem isW_t {x a b : Int32} (h1 : a ≤ x) (h2 : x ≤ b) : fX5_isWithin x a b = some 1 := by
  unfold fX5_isWithin
  rw [if_neg (by rw [fa_lt]; rw [fa_le] at h1; omega), if_neg (by rw [fa_lt]; rw [fa_le] at h2; omega)]
theorem isW_f {x a b : Int32} (h : ¬ (a ≤ x ∧ x ≤ b)) : fX5_isWithin x a b = some 0 := by
  unfold fX5_isWithin
  by_cases h1 : x < a
  · rw [if_pos h1]
  · rw [if_neg h1, if_pos (by rw [fa_lt] at h1; rw [fa_le, fa_le] at h; rw [fa_lt]; omega)]
theorem isW_c (x a b : Int32) : (a ≤ x ∧ x ≤ b ∧ fX5_isWithin x a b = some 1) ∨ (¬ (a ≤ x ∧ x ≤ b) ∧ fX5_isWithin x a b = some 0) := by
  by_cases h : a ≤ x ∧ x ≤ b
  · exact Or.inl ⟨h.1, h.2, isW_t h.1 h.2⟩
  · exact Or.inr ⟨h, isW_f h⟩
theorem cmp_lt (x y : Int64) : lg_cmp x y < 0 ↔ x < y := by
  unfold lg_cmp
  by_cases h1 : x > y
  · rw [if_pos h1]
    constructor
    · intro h; exact absurd h (by decide)
    · intro h; have h1 : y < x := h1; rw [fa_lt64] at h h1; omega
  · rw [if_neg h1]
    by_cases h2 : x = y
    · rw [if_pos h2]
      constructor
      · intro h; exact absurd h (by decide)
      · intro h; rw [h2, fa_lt64] at h; omega
    · rw [if_neg h2]
      constructor
      · intro _
        have h1 : ¬ y < x := h1
        rw [fa_lt64] at h1 ⊢
        rw [fa_eq64] at h2
        omega
      · intro _; decide
theorem cmp_gt (x y : Int64) : 0 < lg_cmp x y ↔ y < x := by
  unfold lg_cmp
  by_cases h1 : x > y
  · rw [if_pos h1]
    exact ⟨fun _ => h1, fun _ => by decide⟩
  · rw [if_neg h1]
    by_cases h2 : x = y
    · rw [if_pos h2]
      exact ⟨fun h => absurd h (by decide), fun h => absurd h h1⟩
    · rw [if_neg h2]
      exact ⟨fun h => absurd h (by decide), fun h => absurd h h1⟩
theorem inW {x a b : Int32} {y z : Int64} (hy : y = a.toInt64) (hz : z = b.toInt64) : fX6_in x.toInt64 y z = fX5_isWithin x a b := by
  subst hy; subst hz
  unfold fX6_in fX5_isWithin
  simp only [cmp_lt, cmp_gt, fa_wide_lt]
theorem in_0_99 (x : Int32) : fX6_in x.toInt64 (0 : Int64) (99 : Int64) = fX5_isWithin x (0 : Int32) (99 : Int32) := inW (a := 0) (b := 99) rfl rfl
theorem in_1_50 (x : Int32) : fX6_in x.toInt64 (1 : Int64) (50 : Int64) = fX5_isWithin x (1 : Int32) (50 : Int32) := inW (a := 1) (b := 50) rfl rfl
theorem in_0_10 (x : Int32) : fX6_in x.toInt64 (0 : Int64) (10 : Int64) = fX5_isWithin x (0 : Int32) (10 : Int32) := inW (a := 0) (b := 10) rfl rfl
theorem in_0_3 (x : Int32) : fX6_in x.toInt64 (0 : Int64) (3 : Int64) = fX5_isWithin x (0 : Int32) (3 : Int32) := inW (a := 0) (b := 3) rfl rfl
theorem in_0_4 (x : Int32) : fX6_in x.toInt64 (0 : Int64) (4 : Int64) = fX5_isWithin x (0 : Int32) (4 : Int32) := inW (a := 0) (b := 4) rfl rfl
theorem in_0_5 (x : Int32) : fX6_in x.toInt64 (0 : Int64) (5 : Int64) = fX5_isWithin x (0 : Int32) (5 : Int32) := inW (a := 0) (b := 5) rfl rfl
theorem in_0_1 (x : Int32) : fX6_in x.toInt64 (0 : Int64) (1 : Int64) = fX5_isWithin x (0 : Int32) (1 : Int32) := inW (a := 0) (b := 1) rfl rfl
theorem in_0_2 (x : Int32) : fX6_in x.toInt64 (0 : Int64) (2 : Int64) = fX5_isWithin x (0 : Int32) (2 : Int32) := inW (a := 0) (b := 2) rfl rfl
theorem in_1_99 (x : Int32) : fX6_in x.toInt64 (1 : Int64) (99 : Int64) = fX5_isWithin x (1 : Int32) (99 : Int32) := inW (a := 1) (b := 99) rfl rfl
theorem in_0_999 (x : Int32) : fX6_in x.toInt64 (0 : Int64) (999 : Int64) = fX5_isWithin x (0 : Int32) (999 : Int32) := inW (a := 0) (b := 999) rfl rfl
theorem in_0_9 (x : Int32) : fX6_in x.toInt64 (0 : Int64) (9 : Int64) = fX5_isWithin x (0 : Int32) (9 : Int32) := inW (a := 0) (b := 9) rfl rfl
theorem in_10_99 (x : Int32) : fX6_in x.toInt64 (10 : Int64) (99 : Int64) = fX5_isWithin x (10 : Int32) (99 : Int32) := inW (a := 10) (b := 99) rfl rfl
theorem in_0_15 (x : Int32) : fX6_in x.toInt64 (0 : Int64) (15 : Int64) = fX5_isWithin x (0 : Int32) (15 : Int32) := inW (a := 0) (b := 15) rfl rfl
theorem in_0_8 (x : Int32) : fX6_in x.toInt64 (0 : Int64) (8 : Int64) = fX5_isWithin x (0 : Int32) (8 : Int32) := inW (a := 0) (b := 8) rfl rfl
theorem in_0_v (x b : Int32) : fX6_in x.toInt64 (0 : Int64) b.toInt64 = fX5_isWithin x (0 : Int32) b := inW (a := 0) rfl rfl
theorem in_v_v (x a b : Int32) : fX6_in x.toInt64 a.toInt64 b.toInt64 = fX5_isWithin x a b := inW rfl rfl
theorem asTold6 (a b c d : Int32) : fX6_isAsTold a b c d = fX5_isSortAsTold a b c d := by
  unfold fX6_isAsTold fX5_isSortAsTold
  simp only [in_1_50, in_0_99, in_0_10]
theorem isSort6 (n a : Int32) : fX6_isSort n a = fX5_isSort n a := by
  unfold fX6_isSort fX5_isSort
  simp only [in_0_v]
theorem isOffer6 (k w : Int32) : fX6_isOffer k w = fX5_isOffer k w := by
  unfold fX6_isOffer fX5_isOffer
  by_cases h : k = 3
  · simp only [if_pos h, bd_s, in_0_4, in_0_10]
  · simp only [if_neg h, bd_s, in_0_4, in_0_99]
theorem isPrice6 (p : Int32) : fX6_isPrice p = fX5_isPrice p := by
  unfold fX6_isPrice fX5_isPrice
  simp only [in_0_99]
end Pure
