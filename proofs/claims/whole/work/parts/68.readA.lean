section ReadA
theorem in_rng {f : Int32} {i len : Nat} (hi : i < 100) (hl : len ≤ 40) : fX6_in (f.toInt64 + (nI i).toInt64) (0 : Int64) ((nI len - (1 : Int32)).toInt64) = some (if 0 ≤ f.toInt + i ∧ f.toInt + i < len then 1 else 0) := by
  have r := fb_rng f
  have e1 : (f.toInt64 + (nI i).toInt64).toInt = f.toInt + i := by
    rw [fb_addL (by rw [toL, toL, nI_toInt (by omega)]; omega) (by rw [toL, toL, nI_toInt (by omega)]; omega), toL, toL, nI_toInt (by omega)]
  have e2 : ((nI len - (1 : Int32)).toInt64).toInt = (len : Int) - 1 := by
    rw [toL]; exact pk_sub_toInt (a := len) (b := 1) (by omega) (by omega)
  have z : (0 : Int64).toInt = 0 := rfl
  unfold fX6_in
  simp only [cmp_lt, cmp_gt, fa_lt64, e1, e2, z]
  by_cases c1 : f.toInt + i < 0
  · rw [if_pos c1, if_neg (by omega)]
  · rw [if_neg c1]
    by_cases c2 : (len : Int) - 1 < f.toInt + i
    · rw [if_pos c2, if_neg (by omega)]
    · rw [if_neg c2, if_pos (by omega)]
theorem r6_stop {l1 l2 l3 l4 : Int32} {M30 M31 M32 : Nat → Int32} {M12 : Int32} {M11 : Nat → Int32} {M33 b w i : Int32} (h : ¬ b = 0) : fX6_read_b48 l1 l2 l3 l4 M30 M31 M32 M12 M11 M33 (b, w, i) = some (.inr (.inr (b, w))) := by
  unfold fX6_read_b48
  dsimp only
  rw [if_neg h]
  split <;> rfl
theorem r5_stop {l2 l3 l4 H1 H2 : Int32} {H0 : Nat → Int32} {S5 L7 : Int32} {S0 S1 S2 S3 S4 : Nat → Int32} {w b i : Int32} (h : ¬ b = 0) : fX5_read_b48 l2 l3 l4 H1 H2 H0 S5 L7 S0 S1 S2 S3 S4 (w, b, i) = some (.inr (.inr (w, b))) := by
  unfold fX5_read_b48
  dsimp only
  rw [if_neg h]
  split <;> rfl
def inR (f : Int32) (len i : Nat) : Prop := 0 ≤ f.toInt + i ∧ f.toInt + i < len
section R6
variable {k len n : Nat} {lanes lengths mc : Nat → Int32} {lane f M12 : Int32} {M11 : Nat → Int32} {M33 : Int32}
theorem r6_bad (hk : k < 4) (hl : len ≤ 40) (h1 : lengths k = nI len) (h2 : lanes k = lane) (h3 : ¬ lane = -4) (hn : n ≤ 8) {i : Nat} (hi : i < 4 * n) (hb : ¬ inR f len i) (w : Int32) : fX6_read_b48 (nI k) lane f (nI n) lanes lengths mc M12 M11 M33 (0, w, nI i) = some (.inl (2, w, nI (i + 1))) := by
  have e4 : (4 : Int32) * nI n = nI (4 * n) := pk_mul 4 n
  have ck : ∀ {α : Type} (x : Option α), ckI (nI k) 4 x = x := fun x => ckI_nI hk (by omega) x
  have hb' : ¬ (0 ≤ f.toInt + i ∧ f.toInt + i < len) := hb
  unfold fX6_read_b48
  dsimp only
  rw [e4, if_neg (nle hi (by omega)), if_pos rfl]
  simp only [ck, nI_clamp (show k < 2 ^ 31 by omega), h1, h2, if_neg h3, if_pos, in_rng (f := f) (show i < 100 by omega) hl, if_neg hb', bd_s, nI_1]
  rfl
theorem r6_pass (hk : k < 4) (hl : len ≤ 40) (h1 : lengths k = nI len) (h2 : lanes k = lane) (h3 : ¬ lane = -4) (hn : n ≤ 8) {i : Nat} (hi : i < 4 * n) (hb : inR f len i) (hm : ¬ i % 4 = 3) (w : Int32) : fX6_read_b48 (nI k) lane f (nI n) lanes lengths mc M12 M11 M33 (0, w, nI i) = some (.inl (0, w, nI (i + 1))) := by
  have e4 : (4 : Int32) * nI n = nI (4 * n) := pk_mul 4 n
  have er : nI i - nI i / (4 : Int32) * (4 : Int32) = nI (i % 4) := pk_rem (a := i) (d := 4) (by omega) (by omega) (by omega)
  have e3 : ¬ nI (i % 4) = (3 : Int32) := fun q => hm ((nI_eq (b := 3) (by omega) (by omega)).mp q)
  have ck : ∀ {α : Type} (x : Option α), ckI (nI k) 4 x = x := fun x => ckI_nI hk (by omega) x
  have hb' : 0 ≤ f.toInt + i ∧ f.toInt + i < len := hb
  unfold fX6_read_b48
  dsimp only
  rw [e4, if_neg (nle hi (by omega)), if_pos rfl]
  simp only [ck, nI_clamp (show k < 2 ^ 31 by omega), h1, h2, if_neg h3, if_pos, in_rng (f := f) (show i < 100 by omega) hl, if_pos hb', bd_s, nI_1, one0, ite_false, er, if_neg e3]
theorem r6_passes (hk : k < 4) (hl : len ≤ 40) (h1 : lengths k = nI len) (h2 : lanes k = lane) (h3 : ¬ lane = -4) (hn : n ≤ 8) {t : Nat} (ht : t < n) (w : Int32) : ∀ (e F : Nat), e ≤ 3 → (∀ e', e' < e → inR f len (4 * t + e')) →
    loopF (fX6_read_b48 (nI k) lane f (nI n) lanes lengths mc M12 M11 M33) (F + e) (0, w, nI (4 * t)) = loopF (fX6_read_b48 (nI k) lane f (nI n) lanes lengths mc M12 M11 M33) F (0, w, nI (4 * t + e)) := by
  intro e
  induction e with
  | zero => intro F _ _; rfl
  | succ e ih =>
    intro F he h
    rw [show F + (e + 1) = (F + 1) + e by omega, ih (F + 1) (by omega) (fun e' h' => h e' (by omega)), loop_go (r6_pass hk hl h1 h2 h3 hn (by omega) (h e (by omega)) (by omega) w)]
    rfl
theorem r6_sort (hk : k < 4) (hl : len ≤ 40) (h1 : lengths k = nI len) (h2 : lanes k = lane) (h3 : ¬ lane = -4) (hn : n ≤ 8) {t f0 : Nat} (ht : t < n) (hf : f0 + 4 * t + 4 ≤ len) {w : Int32} : fX6_read_b48 (nI k) lane (nI f0) (nI n) lanes lengths mc M12 M11 M33 (0, w, nI (4 * t + 3)) =
    bd (fX5_isSortAsTold (mc (40 * k + (f0 + 4 * t))) (mc (40 * k + (f0 + 4 * t + 1))) (mc (40 * k + (f0 + 4 * t + 2))) (mc (40 * k + (f0 + 4 * t + 3)))) (fun t3 => if t3 = (0 : Int32) then (some (.inr (.inl (((-20 : Int32) - w), M11, M12, M33)))) else (if (M12 + (w + (1 : Int32))) ≤ (8 : Int32) then (some (.inl ((0 : Int32), (w + (1 : Int32)), nI (4 * (t + 1))))) else (some (.inr (.inl ((-3 : Int32), M11, M12, M33)))))) := by
  have e4 : (4 : Int32) * nI n = nI (4 * n) := pk_mul 4 n
  have er : nI (4 * t + 3) - nI (4 * t + 3) / (4 : Int32) * (4 : Int32) = nI ((4 * t + 3) % 4) := pk_rem (a := 4 * t + 3) (d := 4) (by omega) (by omega) (by omega)
  have e3 : nI ((4 * t + 3) % 4) = (3 : Int32) := by rw [show (4 * t + 3) % 4 = 3 by omega]; rfl
  have ck : ∀ {α : Type} (x : Option α), ckI (nI k) 4 x = x := fun x => ckI_nI hk (by omega) x
  have hfi : (nI f0).toInt = (f0 : Int) := nI_toInt (by omega)
  have hb' : 0 ≤ (nI f0).toInt + ((4 * t + 3 : Nat) : Int) ∧ (nI f0).toInt + ((4 * t + 3 : Nat) : Int) < (len : Int) := by rw [hfi]; omega
  have ei : (((40 : Int32) * nI k + nI f0) + nI (4 * t + 3)) - (3 : Int32) = nI (40 * k + (f0 + 4 * t)) := by
    rw [show (40 : Int32) * nI k = nI (40 * k) from pk_mul 40 k, nI_add, nI_add, show (3 : Int32) = nI 3 from rfl, pk_sub (by omega), show 40 * k + f0 + (4 * t + 3) - 3 = 40 * k + (f0 + 4 * t) by omega]
  have ei1 : nI (40 * k + (f0 + 4 * t)) + (1 : Int32) = nI (40 * k + (f0 + 4 * t + 1)) := nI_add _ 1
  have ei2 : nI (40 * k + (f0 + 4 * t)) + (2 : Int32) = nI (40 * k + (f0 + 4 * t + 2)) := nI_add _ 2
  have ei3 : nI (40 * k + (f0 + 4 * t)) + (3 : Int32) = nI (40 * k + (f0 + 4 * t + 3)) := nI_add _ 3
  have c0 : ∀ {α : Type} (x : Option α), ckI (nI (40 * k + (f0 + 4 * t))) 160 x = x := fun x => ckI_nI (by omega) (by omega) x
  have c1 : ∀ {α : Type} (x : Option α), ckI (nI (40 * k + (f0 + 4 * t + 1))) 160 x = x := fun x => ckI_nI (by omega) (by omega) x
  have c2 : ∀ {α : Type} (x : Option α), ckI (nI (40 * k + (f0 + 4 * t + 2))) 160 x = x := fun x => ckI_nI (by omega) (by omega) x
  have c3 : ∀ {α : Type} (x : Option α), ckI (nI (40 * k + (f0 + 4 * t + 3))) 160 x = x := fun x => ckI_nI (by omega) (by omega) x
  unfold fX6_read_b48
  dsimp only
  rw [e4, if_neg (nle (show 4 * t + 3 < 4 * n by omega) (by omega)), if_pos rfl]
  simp only [ck, nI_clamp (show k < 2 ^ 31 by omega), h1, h2, if_neg h3, if_pos, in_rng (f := nI f0) (show 4 * t + 3 < 100 by omega) hl, if_pos hb', bd_s, one0, ite_false, er, if_pos e3, ei, ei1, ei2, ei3, c0, c1, c2, c3, asTold6,
    nI_clamp (show 40 * k + (f0 + 4 * t) < 2 ^ 31 by omega), nI_clamp (show 40 * k + (f0 + 4 * t + 1) < 2 ^ 31 by omega), nI_clamp (show 40 * k + (f0 + 4 * t + 2) < 2 ^ 31 by omega), nI_clamp (show 40 * k + (f0 + 4 * t + 3) < 2 ^ 31 by omega), show nI (4 * t + 3) + (1 : Int32) = nI (4 * (t + 1)) from nI_1 (4 * t + 3)]
end R6
theorem tells5 {cells : Nat → Int32} {j : Nat} (hj : j + 4 ≤ 40) : fX1_tellsSortAt cells (nI j) = fX5_isSortAsTold (cells j) (cells (j + 1)) (cells (j + 2)) (cells (j + 3)) := by
  have ei1 : nI j + (1 : Int32) = nI (j + 1) := nI_add _ 1
  have ei2 : nI j + (2 : Int32) = nI (j + 2) := nI_add _ 2
  have ei3 : nI j + (3 : Int32) = nI (j + 3) := nI_add _ 3
  unfold fX1_tellsSortAt
  rw [ei1, ei2, ei3, ckI_nI (by omega) (by omega), ckI_nI (by omega) (by omega), ckI_nI (by omega) (by omega), ckI_nI (by omega) (by omega), nI_clamp (by omega), nI_clamp (by omega), nI_clamp (by omega), nI_clamp (by omega)]
  rcases told_c (cells j) (cells (j + 1)) (cells (j + 2)) (cells (j + 3)) with ⟨-, e⟩ | e
  · rw [e, bd_s, ckB_1]
  · rw [e, bd_s, ckB_0]
/-- sorts told by cells from f on -/
def Told (cells : Nat → Int32) (f : Int32) (n : Nat) : Prop := ∀ i, i < n → ROne (cells (f.toInt.toNat + 4 * i)) (cells (f.toInt.toNat + 4 * i + 1)) (cells (f.toInt.toNat + 4 * i + 2)) (cells (f.toInt.toNat + 4 * i + 3)) 0
def RdEnd (cells : Nat → Int32) (f : Int32) (c : Nat) (L7 : Int32) (S0 S1 S2 S3 S4 M11 : Nat → Int32) (M33 : Int32) (T : (Int32 × Int32 × (Nat → Int32) × (Nat → Int32) × (Nat → Int32) × (Nat → Int32) × (Nat → Int32) × Int32) ⊕ (Int32 × Int32)) (T' : (Int32 × (Nat → Int32) × Int32 × Int32) ⊕ (Int32 × Int32)) : Prop :=
  (∃ x, T = .inl (x, L7, S0, S1, S2, S3, S4, nI c) ∧ T' = .inl (x, M11, nI c, M33)) ∨ ∃ (wn : Nat) (y : Int32), T = .inr (nI wn, y) ∧ T' = .inr (y, nI wn) ∧ c + wn ≤ 8 ∧ (wn = 0 ∨ 0 ≤ f.toInt ∧ f.toInt + 4 * wn ≤ 40) ∧ Told cells f wn
theorem scan3 {k len n c : Nat} {cells lanes lengths mc : Nat → Int32} {lane f L7 M33 : Int32} {S0 S1 S2 S3 S4 M11 : Nat → Int32} (hk : k < 4) (hl : len ≤ 40) (h1 : lengths k = nI len) (h2 : lanes k = lane) (h3 : ¬ lane = -4) (hcell : ∀ j, j < 40 → mc (40 * k + j) = cells j) (hn : n ≤ 8) : ∀ (d t F F' : Nat), t + d = n → d + 2 < F → 4 * d + 2 < F' → (t = 0 ∨ 0 ≤ f.toInt ∧ f.toInt + 4 * t ≤ len) → c + t ≤ 8 → Told cells f t →
    ∃ T T', loopF (fX5_read_b48 lane f (nI n) (nI len) lane cells (nI c) L7 S0 S1 S2 S3 S4) F (nI t, 0, nI t) = some T ∧ loopF (fX6_read_b48 (nI k) lane f (nI n) lanes lengths mc (nI c) M11 M33) F' (0, nI t, nI (4 * t)) = some T' ∧ RdEnd cells f c L7 S0 S1 S2 S3 S4 M11 M33 T T' := by
  intro d
  induction d with
  | zero =>
    intro t F F' htd hF hF' hp hc hT
    obtain ⟨F, rfl⟩ : ∃ m, F = m + 1 := ⟨F - 1, by omega⟩
    obtain ⟨F', rfl⟩ : ∃ m, F' = m + 1 := ⟨F' - 1, by omega⟩
    have ht : t = n := by omega
    subst ht
    refine ⟨_, _, loop_end (by unfold fX5_read_b48; dsimp only; rw [if_pos (nI_le (Nat.le_refl t) (by omega))]), loop_end (by unfold fX6_read_b48; dsimp only; rw [show (4 : Int32) * nI t = nI (4 * t) from pk_mul 4 t, if_pos (nI_le (Nat.le_refl _) (by omega))]), Or.inr ⟨t, 0, rfl, rfl, hc, ?_, hT⟩⟩
    rcases hp with hp | hp
    · exact Or.inl hp
    · exact Or.inr ⟨hp.1, by omega⟩
  | succ d ih =>
    intro t F F' htd hF hF' hp hc hT
    have ht : t < n := by omega
    obtain ⟨F, rfl⟩ : ∃ m, F = (m + 1) + 1 := ⟨F - 2, by omega⟩
    have em : (4 : Int32) * nI t = nI (4 * t) := pk_mul 4 t
    have ex : (f + nI (4 * t)).toInt = f.toInt + 4 * t := by
      rcases hp with rfl | hp
      · rw [show nI (4 * 0) = 0 from rfl, Int32.add_zero]; omega
      · have z := nI_toInt (n := 4 * t) (by omega)
        rw [fb_addI (by rw [z]; omega) (by rw [z]; omega), z]; omega
    have el : (nI len - (4 : Int32)).toInt = (len : Int) - 4 := pk_sub_toInt (a := len) (b := 4) (by omega) (by omega)
    have z0 : (0 : Int32).toInt = 0 := rfl
    have hfa : fX1_faultAt (nI len) lane lane (f + nI (4 * t)) 4 = bd (fX5_isWithin (f + nI (4 * t)) 0 (nI len - 4)) (fun t3 => if t3 = 0 then some 2 else some 0) := by
      unfold fX1_faultAt; rw [if_pos (nI_pos' (by omega)), if_pos rfl]
    by_cases g : 0 ≤ f.toInt ∧ f.toInt + 4 * t + 4 ≤ len
    · obtain ⟨f0, hf0, rfl⟩ := nI_of (x := f) (by rw [fa_lt, z0]; omega)
      have hfi : (nI f0).toInt = (f0 : Int) := nI_toInt hf0
      have hft : (nI f0).toInt.toNat = f0 := by rw [hfi]; rfl
      rw [hfi] at g
      obtain ⟨F', rfl⟩ : ∃ m, F' = ((m + 1) + 3) := ⟨F' - 4, by omega⟩
      rw [r6_passes hk hl h1 h2 h3 hn ht (nI t) 3 (F' + 1) (by omega) (fun e' he => by unfold inR; rw [hfi]; omega)]
      have hS := r6_sort (mc := mc) (M12 := nI c) (M11 := M11) (M33 := M33) (w := nI t) hk hl h1 h2 h3 hn ht (f0 := f0) (by omega)
      rw [hcell _ (by omega), hcell _ (by omega), hcell _ (by omega), hcell _ (by omega)] at hS
      have hW : fX5_isWithin (nI f0 + nI (4 * t)) 0 (nI len - 4) = some 1 := isW_t (by rw [fa_le, ex, hfi, z0]; omega) (by rw [fa_le, ex, hfi, el]; omega)
      have hC : fX5_read_b48 lane (nI f0) (nI n) (nI len) lane cells (nI c) L7 S0 S1 S2 S3 S4 (nI t, 0, nI t) = bd (fX5_isSortAsTold (cells (f0 + 4 * t)) (cells (f0 + 4 * t + 1)) (cells (f0 + 4 * t + 2)) (cells (f0 + 4 * t + 3))) (fun t2 => if t2 = (0 : Int32) then (some (.inr (.inl (((-20 : Int32) - nI t), L7, S0, S1, S2, S3, S4, nI c)))) else (if (nI c + nI t) < (8 : Int32) then (some (.inl (nI (t + 1), 0, nI (t + 1)))) else (some (.inr (.inl ((-3 : Int32), L7, S0, S1, S2, S3, S4, nI c)))))) := by
        unfold fX5_read_b48
        dsimp only
        rw [if_neg (nle ht (by omega)), if_pos rfl, em, hfa, hW, bd_s, if_neg (by decide), bd_s, if_pos rfl, nI_add, tells5 (by omega), nI_1]
      rcases told_c (cells (f0 + 4 * t)) (cells (f0 + 4 * t + 1)) (cells (f0 + 4 * t + 2)) (cells (f0 + 4 * t + 3)) with ⟨hO, e⟩ | e
      · rw [e, bd_s, if_neg (by decide)] at hS hC
        by_cases q : c + t < 8
        · have q1 : nI c + nI t < (8 : Int32) := by rw [nI_add]; exact nI_lt (b := 8) q (by omega)
          have q2 : nI c + (nI t + (1 : Int32)) ≤ (8 : Int32) := by rw [nI_1, nI_add]; exact nI_le (b := 8) (by omega) (by omega)
          rw [if_pos q1] at hC
          rw [if_pos q2, nI_1] at hS
          rw [loop_go hC, loop_go hS]
          refine ih (t + 1) (F + 1) F' (by omega) (by omega) (by omega) (Or.inr ⟨by rw [hfi]; omega, by rw [hfi]; omega⟩) (by omega) ?_
          intro i hi
          by_cases ei : i = t
          · rw [hft, ei]; exact hO
          · exact hT i (by omega)
        · have q1 : ¬ nI c + nI t < (8 : Int32) := by rw [nI_add]; exact nI_nlt (b := 8) (by omega) (by omega)
          have q2 : ¬ nI c + (nI t + (1 : Int32)) ≤ (8 : Int32) := by rw [nI_1, nI_add]; exact nI_ge (a := 8) (by omega) (by omega)
          rw [if_neg q1] at hC
          rw [if_neg q2] at hS
          exact ⟨_, _, loop_end hC, loop_end hS, Or.inl ⟨_, rfl, rfl⟩⟩
      · rw [e, bd_s, if_pos rfl] at hS hC
        exact ⟨_, _, loop_end hC, loop_end hS, Or.inl ⟨_, rfl, rfl⟩⟩
    · have hW : fX5_isWithin (f + nI (4 * t)) 0 (nI len - 4) = some 0 := isW_f (by
        rw [fa_le, fa_le, ex, el, z0]
        rcases hp with rfl | hp
        · omega
        · omega)
      have hC : fX5_read_b48 lane f (nI n) (nI len) lane cells (nI c) L7 S0 S1 S2 S3 S4 (nI t, 0, nI t) = some (.inl (nI t, 2, nI (t + 1))) := by
        unfold fX5_read_b48
        dsimp only
        rw [if_neg (nle ht (by omega)), if_pos rfl, em, hfa, hW, bd_s, if_pos rfl, bd_s, if_neg (by decide), nI_1]
      rw [loop_go hC, loop_end (r5_stop (by decide))]
      have he : ∃ e, e ≤ 3 ∧ ¬ inR f len (4 * t + e) ∧ ∀ e', e' < e → inR f len (4 * t + e') := by
        by_cases i0 : inR f len (4 * t + 0)
        · by_cases i1 : inR f len (4 * t + 1)
          · by_cases i2 : inR f len (4 * t + 2)
            · by_cases i3 : inR f len (4 * t + 3)
              · exfalso
                unfold inR at i0 i3
                rcases hp with rfl | hp
                · omega
                · omega
              · exact ⟨3, by omega, i3, fun e' h => by rcases (show e' = 0 ∨ e' = 1 ∨ e' = 2 by omega) with rfl | rfl | rfl <;> assumption⟩
            · exact ⟨2, by omega, i2, fun e' h => by rcases (show e' = 0 ∨ e' = 1 by omega) with rfl | rfl <;> assumption⟩
          · exact ⟨1, by omega, i1, fun e' h => by rw [show e' = 0 by omega]; exact i0⟩
        · exact ⟨0, by omega, i0, fun e' h => by omega⟩
      obtain ⟨e, he3, hbad, hok⟩ := he
      obtain ⟨F', rfl⟩ : ∃ m, F' = (((m + 1) + 1) + e) := ⟨F' - 2 - e, by omega⟩
      rw [r6_passes hk hl h1 h2 h3 hn ht (nI t) e _ he3 hok, loop_go (r6_bad hk hl h1 h2 h3 hn (by omega) hbad (nI t)), loop_end (r6_stop (by decide))]
      refine ⟨_, _, rfl, rfl, Or.inr ⟨t, 2, rfl, rfl, hc, ?_, hT⟩⟩
      rcases hp with hp | hp
      · exact Or.inl hp
      · exact Or.inr ⟨hp.1, by omega⟩
theorem scan {k n c : Nat} {size lane f L7 M33 l2 : Int32} {cells lanes lengths mc : Nat → Int32} {S0 S1 S2 S3 S4 M11 : Nat → Int32} (hk : k < 4) (hR : RSheet k size lane cells lanes lengths mc) (hn : n ≤ 8) (hc : c ≤ 8) :
    ∃ T T', loopF (fX5_read_b48 l2 f (nI n) size lane cells (nI c) L7 S0 S1 S2 S3 S4) 1000 ((0 : Int32), (0 : Int32), (0 : Int32)) = some T ∧ loopF (fX6_read_b48 (nI k) l2 f (nI n) lanes lengths mc (nI c) M11 M33) 1000 ((0 : Int32), (0 : Int32), (0 : Int32)) = some T' ∧ RdEnd cells f c L7 S0 S1 S2 S3 S4 M11 M33 T T' := by
  have e4 : (4 : Int32) * nI n = nI (4 * n) := pk_mul 4 n
  have ck : ∀ {α : Type} (x : Option α), ckI (nI k) 4 x = x := fun x => ckI_nI hk (by omega) x
  have stops : ∀ y : Int32, ¬ y = 0 → fX1_faultAt size lane l2 (f + (4 : Int32) * (0 : Int32)) 4 = some y → (∀ g : Int32 → Option ((Int32 × Int32 × Int32) ⊕ ((Int32 × (Nat → Int32) × Int32 × Int32) ⊕ (Int32 × Int32))), bd (if lanes k = -4 then some (1 : Int32) else if lanes k = l2 then bd (fX6_in (f.toInt64 + (0 : Int32).toInt64) (0 : Int64) (lengths k - (1 : Int32)).toInt64) (fun t1 => if t1 = (0 : Int32) then some (2 : Int32) else some (0 : Int32)) else some (3 : Int32)) g = g y) →
      ∃ T T', loopF (fX5_read_b48 l2 f (nI n) size lane cells (nI c) L7 S0 S1 S2 S3 S4) 1000 ((0 : Int32), (0 : Int32), (0 : Int32)) = some T ∧ loopF (fX6_read_b48 (nI k) l2 f (nI n) lanes lengths mc (nI c) M11 M33) 1000 ((0 : Int32), (0 : Int32), (0 : Int32)) = some T' ∧ RdEnd cells f c L7 S0 S1 S2 S3 S4 M11 M33 T T' := by
    intro y hy h5 h6
    by_cases n0 : n = 0
    · refine ⟨_, _, loop_end (n := 999) (by unfold fX5_read_b48; dsimp only; rw [if_pos (show nI n ≤ 0 by rw [n0]; decide)]; rfl), loop_end (n := 999) (by unfold fX6_read_b48; dsimp only; rw [if_pos (show (4 : Int32) * nI n ≤ 0 by rw [n0]; decide)]; rfl), Or.inr ⟨0, 0, rfl, rfl, hc, Or.inl rfl, fun i h => by omega⟩⟩
    · have hC : fX5_read_b48 l2 f (nI n) size lane cells (nI c) L7 S0 S1 S2 S3 S4 ((0 : Int32), (0 : Int32), (0 : Int32)) = some (.inl (0, y, 1)) := by
        unfold fX5_read_b48
        dsimp only
        rw [if_neg (show ¬ nI n ≤ 0 from nI_nle (by omega) (by omega)), if_pos rfl, h5, bd_s, if_neg hy]
        rfl
      have hM : fX6_read_b48 (nI k) l2 f (nI n) lanes lengths mc (nI c) M11 M33 ((0 : Int32), (0 : Int32), (0 : Int32)) = some (.inl (y, 0, 1)) := by
        unfold fX6_read_b48
        dsimp only
        rw [e4, if_neg (show ¬ nI (4 * n) ≤ 0 from nI_nle (by omega) (by omega)), if_pos rfl]
        simp only [ck, nI_clamp (show k < 2 ^ 31 by omega)]
        rw [h6, if_neg hy]
        rfl
      refine ⟨_, _, (loop_go (n := 999) hC).trans (loop_end (n := 998) (r5_stop hy)), (loop_go (n := 999) hM).trans (loop_end (n := 998) (r6_stop hy)), Or.inr ⟨0, y, rfl, rfl, hc, Or.inl rfl, fun i h => by omega⟩⟩
  obtain ⟨hs, hcell⟩ := hR
  rcases hs with ⟨rfl, h4⟩ | ⟨len, hl, rfl, h1, h2, hlane⟩
  · exact stops 1 (by decide) (by unfold fX1_faultAt; rw [if_neg (by decide)]) (fun g => by rw [if_pos h4, bd_s])
  · have hne : ¬ lane = -4 := by rcases hlane with rfl | rfl | rfl <;> decide
    by_cases e : l2 = lane
    · subst e
      exact scan3 hk hl h1 h2 hne hcell hn n 0 1000 1000 (by omega) (by omega) (by omega) (Or.inl rfl) hc (fun i h => by omega)
    · exact stops 3 (by decide) (by unfold fX1_faultAt; rw [if_pos (nI_pos' (by omega)), if_neg e]) (fun g => by rw [if_neg (by rw [h2]; exact hne), if_neg (by rw [h2]; exact fun q => e q.symm), bd_s])
end ReadA
