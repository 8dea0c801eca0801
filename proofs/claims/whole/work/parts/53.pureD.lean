section PureD
/-- two loops side by side, with ends that may come early -/
theorem loop_twoO {V T V' T' : Type} (B : V → Option (V ⊕ T)) (B' : V' → Option (V' ⊕ T')) (inv : Nat → V → V' → Prop) (P : T → T' → Prop) (N : Nat)
    (hs : ∀ k v v', k < N → inv k v v' → (∃ w w', B v = some (.inl w) ∧ B' v' = some (.inl w') ∧ inv (k + 1) w w') ∨ ∃ t t', B v = some (.inr t) ∧ B' v' = some (.inr t') ∧ P t t')
    (he : ∀ v v', inv N v v' → ∃ t t', B v = some (.inr t) ∧ B' v' = some (.inr t') ∧ P t t') : ∀ (d k : Nat) (v : V) (v' : V') (n : Nat), k + d = N → d < n → inv k v v' → ∃ t t', loopF B n v = some t ∧ loopF B' n v' = some t' ∧ P t t' := by
  intro d
  induction d with
  | zero =>
    intro k v v' n hk hn hv
    obtain ⟨n, rfl⟩ : ∃ m, n = m + 1 := ⟨n - 1, by omega⟩
    obtain ⟨t, t', h1, h2, h3⟩ := he v v' (by rw [← hk]; exact hv)
    exact ⟨t, t', by show bd (B v) _ = _; rw [h1]; rfl, by show bd (B' v') _ = _; rw [h2]; rfl, h3⟩
  | succ d ih =>
    intro k v v' n hk hn hv
    obtain ⟨n, rfl⟩ : ∃ m, n = m + 1 := ⟨n - 1, by omega⟩
    rcases hs k v v' (by omega) hv with ⟨w, w', h1, h2, h3⟩ | ⟨t, t', h1, h2, h3⟩
    · obtain ⟨t, t', h4, h5, h6⟩ := ih (k + 1) w w' n (by omega) (by omega) h3
      exact ⟨t, t', by show bd (B v) _ = _; rw [h1]; exact h4, by show bd (B' v') _ = _; rw [h2]; exact h5, h6⟩
    · exact ⟨t, t', by show bd (B v) _ = _; rw [h1]; rfl, by show bd (B' v') _ = _; rw [h2]; rfl, h3⟩
theorem loop_two {V T V' T' : Type} (B : V → Option (V ⊕ T)) (B' : V' → Option (V' ⊕ T')) (inv : Nat → V → V' → Prop) (P : T → T' → Prop) (N : Nat) {v : V} {v' : V'} (hN : N < 1000) (h0 : inv 0 v v')
    (hs : ∀ k v v', k < N → inv k v v' → ∃ w w', B v = some (.inl w) ∧ B' v' = some (.inl w') ∧ inv (k + 1) w w')
    (he : ∀ v v', inv N v v' → ∃ t t', B v = some (.inr t) ∧ B' v' = some (.inr t') ∧ P t t') : ∃ t t', loopF B 1000 v = some t ∧ loopF B' 1000 v' = some t' ∧ P t t' :=
  loop_twoO B B' inv P N (fun k v v' h1 h2 => Or.inl (hs k v v' h1 h2)) he N 0 v v' 1000 (by omega) hN h0
theorem i0' {r : Nat → Int32} {j : Nat} (hj : j < 8) : fX6_its r (nI j) (0 : Int32) = some (r (5 * j)) := its_eq (k := 0) hj (by omega)
theorem i1' {r : Nat → Int32} {j : Nat} (hj : j < 8) : fX6_its r (nI j) (1 : Int32) = some (r (5 * j + 1)) := its_eq (k := 1) hj (by omega)
theorem i2' {r : Nat → Int32} {j : Nat} (hj : j < 8) : fX6_its r (nI j) (2 : Int32) = some (r (5 * j + 2)) := its_eq (k := 2) hj (by omega)
theorem i3' {r : Nat → Int32} {j : Nat} (hj : j < 8) : fX6_its r (nI j) (3 : Int32) = some (r (5 * j + 3)) := its_eq (k := 3) hj (by omega)
theorem i4' {r : Nat → Int32} {j : Nat} (hj : j < 8) : fX6_its r (nI j) (4 : Int32) = some (r (5 * j + 4)) := its_eq (k := 4) hj (by omega)
theorem sur_eq {r1 r2 : Nat → Int32} {j : Nat} (hj : j < 8) : fX2_surplus r1 r2 (nI j) = some (r2 j - r1 j) := by
  unfold fX2_surplus
  rw [ckI_nI hj (by omega), ckI_nI hj (by omega), nI_clamp (by omega)]
theorem nle {k n : Nat} (h : k < n) (hn : n < 2 ^ 31) : ¬ nI n ≤ nI k := fun q => absurd ((nI_leI (by omega) (by omega)).mp q) (by omega)
/-- rows of zeros -/
theorem renew_eq (r : Nat → Int32) (a n : Int32) : ∃ f, fX1_renew r a n = some (f, n, a) ∧ ∀ j, j < 40 → f j = 0 := by
  unfold fX1_renew
  obtain ⟨t, h1, h2⟩ := loop_to fX1_renew_b12 (fun k v => v.1 = nI k ∧ ∀ j, j < k → v.2 j = 0) (fun f => ∀ j, j < 40 → f j = 0) 40 (v := ((0 : Int32), r)) (by omega) ⟨rfl, fun j h => by omega⟩ (by
    rintro k ⟨i, f⟩ hk ⟨rfl, hf⟩
    refine ⟨(nI (k + 1), upd f k 0), ?_, rfl, ?_⟩
    · have q : ¬ (40 : Int32) ≤ nI k := nle (n := 40) hk (by omega)
      unfold fX1_renew_b12
      dsimp only
      rw [if_neg q, ckI_nI hk (by omega), nI_clamp (by omega), nI_1]
    · intro j hj
      dsimp only at hf ⊢
      rw [upd_at]
      by_cases e : j = k
      · rw [if_pos e]
      · rw [if_neg e]; exact hf j (by omega)) (by
    rintro ⟨i, f⟩ ⟨rfl, hf⟩
    exact ⟨f, by unfold fX1_renew_b12; rw [if_pos (show (40 : Int32) ≤ nI 40 by decide)], hf⟩)
  exact ⟨t, by rw [h1]; rfl, h2⟩
theorem zero6 (r : Nat → Int32) {k : Nat} (hk : k < 4) : ∃ f, loopF (fX6_sheet_b56 (nI k)) 1000 ((0 : Int32), r) = some f ∧ (∀ j, j < 40 → f (40 * k + j) = 0) ∧ ∀ j, (j < 40 * k ∨ 40 * k + 40 ≤ j) → f j = r j := by
  refine loop_to (fX6_sheet_b56 (nI k)) (fun i v => v.1 = nI i ∧ (∀ j, j < i → v.2 (40 * k + j) = 0) ∧ ∀ j, (j < 40 * k ∨ 40 * k + 40 ≤ j) → v.2 j = r j) (fun f => (∀ j, j < 40 → f (40 * k + j) = 0) ∧ ∀ j, (j < 40 * k ∨ 40 * k + 40 ≤ j) → f j = r j) 40 (by omega) ⟨rfl, fun j h => by omega, fun _ _ => rfl⟩ ?_ ?_
  · rintro i ⟨x, f⟩ hi ⟨rfl, hf, hg⟩
    refine ⟨(nI (i + 1), upd f (40 * k + i) 0), ?_, rfl, ?_, ?_⟩
    · unfold fX6_sheet_b56
      have e : (40 : Int32) * nI k + nI i = nI (40 * k + i) := by rw [show (40 : Int32) * nI k = nI (40 * k) from pk_mul 40 k, nI_add]
      have q : ¬ (40 : Int32) ≤ nI i := nle (n := 40) hi (by omega)
      dsimp only
      rw [if_neg q]
      simp only [e]
      rw [ckI_nI (by omega) (by omega), nI_clamp (by omega), nI_1]
    · intro j hj
      dsimp only at hf ⊢
      rw [upd_at]
      by_cases e : j = i
      · rw [if_pos (by omega)]
      · rw [if_neg (by omega)]; exact hf j (by omega)
    · intro j hj
      dsimp only at hg ⊢
      rw [upd_at, if_neg (by omega)]
      exact hg j hj
  · rintro ⟨x, f⟩ ⟨rfl, hf, hg⟩
    exact ⟨f, by unfold fX6_sheet_b56; rw [if_pos (show (40 : Int32) ≤ nI 40 by decide)], hf, hg⟩
/-- a sheet of another number is left as it was -/
theorem RSheet_keep {k k' : Nat} (h : k ≠ k') (hk : k < 4) (hk' : k' < 4) {size lane : Int32} {cells lanes lengths mc lanes' lengths' mc' : Nat → Int32} (hR : RSheet k size lane cells lanes lengths mc) (h1 : lanes' k = lanes k) (h2 : lengths' k = lengths k) (h3 : ∀ j, (j < 40 * k' ∨ 40 * k' + 40 ≤ j) → mc' j = mc j) : RSheet k size lane cells lanes' lengths' mc' := by
  obtain ⟨ha, hb⟩ := hR
  refine ⟨by rw [h1, h2]; exact ha, fun j hj => ?_⟩
  rw [h3 _ (by omega)]
  exact hb j hj
end PureD
