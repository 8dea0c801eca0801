section TextB
abbrev K6 : Type := Int32 × Int32 × Int32 × Int32 × Int32 × Int32
/-- class: fault, its place, place, token, its place, value; reference: wrong, wrongAt, spot, place, token, value -/
def TkR (n lo : Nat) (c m : K6) : Prop :=
  (∃ a b : Nat, a ≤ n ∧ b ≤ a ∧ lo ≤ b ∧ c.1 = 0 ∧ m.1 = 0 ∧ c.2.2.1 = nI a ∧ m.2.2.1 = nI a ∧ c.2.2.2.2.1 = nI b ∧ m.2.2.2.1 = nI b ∧
    ((c.2.2.2.1 = 0 ∧ m.2.2.2.2.1 = 0) ∨ (b < a ∧ c.2.2.2.1 = 1 ∧ m.2.2.2.2.1 = 1 ∧ ∃ q, q < 6 ∧ c.2.2.2.2.2 = nI (codN q) ∧ m.2.2.2.2.2 = nI q) ∨ (b < a ∧ c.2.2.2.1 = 2 ∧ m.2.2.2.2.1 = 2 ∧ ∃ x, x ≤ 99 ∧ c.2.2.2.2.2 = nI x ∧ m.2.2.2.2.2 = nI x) ∨ (b < a ∧ c.2.2.2.1 = 3 ∧ m.2.2.2.2.1 = 3))) ∨
  (0 < c.1 ∧ c.1 = m.1 ∧ c.2.1 = m.2.1)
theorem pos_ne {x : Int32} (h : 0 < x) : ¬ x = 0 := fun q => by rw [q] at h; exact absurd h (by decide)
theorem pos_nle {x : Int32} (h : 0 < x) : ¬ x ≤ 0 := fun q => by rw [fa_lt] at h; rw [fa_le] at q; omega
theorem TkR_mono {n lo lo' : Nat} {c m : K6} (hl : lo' ≤ lo) (h : TkR n lo c m) : TkR n lo' c m := by
  rcases h with ⟨a, b, h1, h2, h3, h4⟩ | h
  · exact Or.inl ⟨a, b, h1, h2, by omega, h4⟩
  · exact Or.inr h
theorem TkR_0 {n lo : Nat} {c m : K6} (h : TkR n lo c m) : c.1 = 0 ↔ m.1 = 0 := by
  rcases h with ⟨a, b, h1, h2, h3, h4, h5, -⟩ | ⟨h1, h2, h3⟩
  · exact ⟨fun _ => h5, fun _ => h4⟩
  · rw [h2]
theorem TkR_pl {n lo : Nat} {c m : K6} (h : TkR n lo c m) (h0 : m.1 = 0) : c.2.2.2.2.1 = m.2.2.2.1 := by
  rcases h with ⟨a, b, h1, h2, h3, h4, h5, h6, h7, h8, h9, -⟩ | ⟨h1, h2, h3⟩
  · exact h8.trans h9.symm
  · rw [h2, h0] at h1; exact absurd h1 (by decide)
section Tape
variable {n : Nat} {tb mr : Nat → Int32} {g : Nat → Nat} {cuts letters : Nat → Int32}
theorem w5 (hT : TP n tb mr g) {j l h : Nat} (hj : j < n) (hl : l < 128) (hh : h < 128) : fX5_isWithin (tb j) (nI l) (nI h) = some (if l ≤ g j ∧ g j ≤ h then 1 else 0) := by
  obtain ⟨h1, h2, h3, h4⟩ := hT.2 j hj
  by_cases c : g j < 128
  · rw [h3 c]; exact isW_n h1 hl hh
  · rw [if_neg (by omega)]
    have z := h4 (by omega)
    exact isW_f (fun q => by
      have q1 := q.1
      rw [fa_le, nI_toInt (by omega)] at q1
      rw [fa_lt] at z
      have z0 : (0 : Int32).toInt = 0 := rfl
      omega)
theorem sign_c (hT : TP n tb mr g) {j : Nat} (hj : j < n) : (nI (g j) = (59 : Int32) ∧ tb j = (59 : Int32)) ∨ (¬ nI (g j) = (59 : Int32) ∧ ¬ tb j = (59 : Int32)) := by
  obtain ⟨h1, h2, h3, h4⟩ := hT.2 j hj
  by_cases c : g j < 128
  · rw [h3 c]
    by_cases q : nI (g j) = (59 : Int32)
    · exact Or.inl ⟨q, q⟩
    · exact Or.inr ⟨q, q⟩
  · have z := h4 (by omega)
    refine Or.inr ⟨fun q => ?_, fun q => ?_⟩
    · have := (nI_eq (b := 59) (by omega) (by omega)).mp q; omega
    · rw [q] at z; exact absurd z (by decide)
theorem tok_two (hT : TP n tb mr g) (hC : RConst cuts letters) {a : Nat} (ha : a ≤ n) (d2 d8 m4 m6 m7 m8 : Int32) : ∃ c m : K6, fX0_readToken 0 d2 (nI a) d8 tb (nI n) = some c ∧ fX6_next mr cuts letters (nI n) 0 m4 (nI a) m6 m7 m8 = some m ∧ TkR n a c m := by
  have hn := hT.1
  obtain ⟨b, h1, h2, h3, h4⟩ := run_end (inB g 32 32) n (n - a) a (by omega)
  have r5 : fX0_endOfRun tb (nI n) (nI a) (32 : Int32) (32 : Int32) = some (nI b) := run5 hT (l := 32) (h := 32) (by omega) (by omega) h1 h2 h3 h4
  have r6 := skip6 hT h1 h2 h3 h4
  unfold fX0_readToken fX6_next
  rw [r5, bd_s, if_pos (show (0 : Int32) ≤ 0 by decide), r6, bd_s]
  by_cases hb : b < n
  · have hg := (hT.2 b hb).1
    have w1 : fX5_isWithin (tb b) (97 : Int32) (122 : Int32) = _ := w5 hT (l := 97) (h := 122) hb (by omega) (by omega)
    have w2 : fX5_isWithin (tb b) (48 : Int32) (57 : Int32) = _ := w5 hT (l := 48) (h := 57) hb (by omega) (by omega)
    rw [if_pos (nI_lt hb (by omega)), ckI_nI (by omega) (by omega), nI_clamp (by omega), w1, bd_s, at6 hT hb, bd_s, if_neg (nI_m4 _ (by omega)), in_az, isW_n hg (by omega) (by omega), bd_s]
    by_cases az : 97 ≤ g b ∧ g b ≤ 122
    · obtain ⟨e, f1, f2, f3, f4⟩ := run_end (inB g 97 122) n (n - b) b (by omega)
      have hbe : b < e := by
        rcases f4 with f4 | ⟨f4, f5⟩
        · omega
        · rcases Nat.lt_or_ge b e with q | q
          · exact q
          · rw [show e = b by omega] at f5; exact absurd az f5
      have q5 : fX0_endOfRun tb (nI n) (nI b) (97 : Int32) (122 : Int32) = some (nI e) := run5 hT (l := 97) (h := 122) (by omega) (by omega) f1 f2 f3 f4
      rw [if_pos az, if_neg (by decide), if_neg (by decide), q5, bd_s, az6 hT f1 f2 f3 f4, bd_s]
      rcases name_two hT hC f1 f2 f3 with ⟨q, hq, n1, n2, n3⟩ | ⟨v, n1, n2, n3⟩
      · rw [n1, bd_s, n2, bd_s, bd_s, n3, bd_s, if_neg (nI_m4 _ (by omega))]
        dsimp only
        rw [if_neg (by decide)]
        exact ⟨_, _, rfl, rfl, Or.inl ⟨e, b, f2, f1, h1, rfl, rfl, rfl, rfl, rfl, rfl, Or.inr (Or.inl ⟨hbe, rfl, rfl, q, hq, rfl, rfl⟩)⟩⟩
      · rw [n1, bd_s, n2, bd_s, bd_s, n3, bd_s, if_pos rfl, if_pos rfl]
        exact ⟨_, _, rfl, rfl, Or.inr ⟨show (0 : Int32) < 1 by decide, rfl, rfl⟩⟩
    · rw [if_neg az, if_pos rfl, if_pos rfl, w2, bd_s, in_09, isW_n hg (by omega) (by omega), bd_s]
      by_cases dg : 48 ≤ g b ∧ g b ≤ 57
      · obtain ⟨e, f1, f2, f3, f4⟩ := run_end (inB g 48 57) n (n - b) b (by omega)
        have hbe : b < e := by
          rcases f4 with f4 | ⟨f4, f5⟩
          · omega
          · rcases Nat.lt_or_ge b e with q | q
            · exact q
            · rw [show e = b by omega] at f5; exact absurd dg f5
        obtain ⟨m, rfl⟩ : ∃ m, e = b + m := ⟨e - b, by omega⟩
        have q5 : fX0_endOfRun tb (nI n) (nI b) (48 : Int32) (57 : Int32) = some (nI (b + m)) := run5 hT (l := 48) (h := 57) (by omega) (by omega) f1 f2 f3 f4
        rw [if_pos dg, if_neg (by decide), if_neg (by decide), q5, bd_s, num5 hT f2, bd_s, num6 hT f2 f3 f4, bd_s]
        dsimp only
        rw [pk_sub (by omega), show b + m - b = m by omega]
        by_cases c2 : m ≤ 2
        · obtain ⟨x, x1, x2, x3⟩ := num_eq hT f2 (by omega) c2 f3
          rw [if_neg (show ¬ (2 : Int32) < nI m from nI_nlt (b := m) (a := 2) c2 (by omega)), bd_s, bd_s, if_pos (show nI m ≤ (2 : Int32) from nI_le (b := 2) c2 (by omega)), x2, x3]
          dsimp only
          rw [if_neg (by decide)]
          exact ⟨_, _, rfl, rfl, Or.inl ⟨b + m, b, f2, f1, h1, rfl, rfl, rfl, rfl, rfl, rfl, Or.inr (Or.inr (Or.inl ⟨hbe, rfl, rfl, x, x1, rfl, rfl⟩))⟩⟩
        · rw [if_pos (show (2 : Int32) < nI m from nI_lt (a := 2) (by omega) (by omega)), bd_s, bd_s, if_neg (show ¬ nI m ≤ (2 : Int32) from nle (k := 2) (by omega) (by omega)), if_pos rfl]
          exact ⟨_, _, rfl, rfl, Or.inr ⟨show (0 : Int32) < 1 by decide, rfl, rfl⟩⟩
      · rw [if_neg dg, if_pos rfl, if_pos rfl]
        rcases sign_c hT hb with ⟨s1, s2⟩ | ⟨s1, s2⟩
        · rw [if_pos s1, if_pos s2, bd_s, bd_s, nI_1]
          dsimp only
          rw [if_neg (by decide)]
          exact ⟨_, _, rfl, rfl, Or.inl ⟨b + 1, b, hb, by omega, h1, rfl, rfl, rfl, rfl, rfl, rfl, Or.inr (Or.inr (Or.inr ⟨by omega, rfl, rfl⟩))⟩⟩
        · rw [if_neg s1, if_neg s2, bd_s, bd_s, if_pos rfl]
          exact ⟨_, _, rfl, rfl, Or.inr ⟨show (0 : Int32) < 1 by decide, rfl, rfl⟩⟩
  · have hbn : b = n := by omega
    rw [hbn, at6n hn, bd_s, if_pos rfl, if_neg (show ¬ nI n < nI n from nI_nlt (Nat.le_refl n) (by omega))]
    exact ⟨_, _, rfl, rfl, Or.inl ⟨n, n, Nat.le_refl n, Nat.le_refl n, ha, rfl, rfl, rfl, rfl, rfl, rfl, Or.inl ⟨rfl, rfl⟩⟩⟩
/-- the next token is read, if there is no fault; the reference has read it -/
def NR (tb : Nat → Int32) (n lo : Nat) (c m1 : K6) : Prop := ∃ c' : K6, (if c.1 = (0 : Int32) then (bd (fX0_readToken (c.1) (c.2.1) (c.2.2.1) (c.2.2.2.2.2) (tb) (nI n)) (fun t2 => some (t2.1, t2.2.1, t2.2.2.1, t2.2.2.2.1, t2.2.2.2.2.1, t2.2.2.2.2.2))) else (some (c.1, c.2.1, c.2.2.1, c.2.2.2.1, c.2.2.2.2.1, c.2.2.2.2.2))) = some c' ∧ TkR n lo c' m1
theorem rd (hT : TP n tb mr g) (hC : RConst cuts letters) {lo lo' : Nat} {c : K6} {x3 x4 x5 x6 x7 x8 : Int32} (h : TkR n lo c (x3, x4, x5, x6, x7, x8)) (hl : lo' ≤ lo ∨ lo' ≤ lo + 1 ∧ ¬ c.2.2.2.1 = 0) : ∃ m1 : K6, fX6_next mr cuts letters (nI n) x3 x4 x5 x6 x7 x8 = some m1 ∧ NR tb n lo' c m1 ∧ (m1.1 = 0 → x3 = 0) := by
  rcases h with ⟨a, b, h1, h2, h3, h4, h5, h6, h7, h8, h9, ht⟩ | ⟨h1, h2, h3⟩
  · dsimp only at h5 h7 h9 ht
    obtain ⟨c', m', e1, e2, e3⟩ := tok_two hT hC h1 c.2.1 c.2.2.2.2.2 x4 x6 x7 x8
    have hlo : lo' ≤ a := by
      rcases hl with hl | ⟨hl, hk⟩
      · omega
      · rcases ht with ht | ht | ht | ht
        · exact absurd ht.1 hk
        · have := ht.1; omega
        · have := ht.1; omega
        · have := ht.1; omega
    refine ⟨m', by rw [h5, h7]; exact e2, ⟨c', ?_, TkR_mono hlo e3⟩, fun _ => h5⟩
    rw [if_pos h4, h4, h6, e1]
    rfl
  · dsimp only at h2 h3
    have hp : 0 < x3 := h2 ▸ h1
    refine ⟨(x3, x4, x5, x6, x7, x8), ?_, ⟨c, ?_, Or.inr ⟨h1, h2, h3⟩⟩, fun q => q⟩
    · unfold fX6_next
      rw [if_neg (pos_nle hp)]
    · rw [if_neg (pos_ne h1)]
theorem z20 : ((2 : Int32) = 0) = False := eq_false (by decide)
theorem z30 : ((3 : Int32) = 0) = False := eq_false (by decide)
theorem tnum {lo : Nat} {c m1 : K6} (h : NR tb n lo c m1) (l u u' : Int32) (hu : m1.1 = 0 → u = u') : ∃ (v v' : Int32) (c1 : K6) (w3 w4 : Int32), fX0_takeNumber c.1 c.2.1 c.2.2.1 c.2.2.2.1 c.2.2.2.2.1 c.2.2.2.2.2 tb (nI n) l u = some (v, c1) ∧ fX6_number m1.1 m1.2.1 m1.2.2.2.1 m1.2.2.2.2.1 m1.2.2.2.2.2 l u' = some (v', w3, w4) ∧ TkR n lo c1 (w3, w4, m1.2.2.1, m1.2.2.2.1, m1.2.2.2.2.1, m1.2.2.2.2.2) ∧ ((c1.1 = 0 ∧ w3 = 0 ∧ m1.1 = 0 ∧ ∃ x, x ≤ 99 ∧ v = nI x ∧ v' = nI x ∧ l ≤ nI x ∧ nI x ≤ u) ∨ (0 < c1.1 ∧ 0 < w3 ∧ v = 0 ∧ v' = l)) := by
  obtain ⟨c', e1, hR⟩ := h
  unfold fX0_takeNumber fX6_number
  rw [e1, bd_s]
  have hR0 := hR
  rcases hR with ⟨a, b, h1, h2, h3, h4, h5, h6, h7, h8, h9, ht⟩ | ⟨h1, h2, h3⟩
  · have bad : ¬ c'.2.2.2.1 = 2 → ¬ m1.2.2.2.2.1 = 2 → ∃ (v v' : Int32) (c1 : K6) (w3 w4 : Int32), bd (if c'.1 = (0 : Int32) then (if c'.2.2.2.1 = (2 : Int32) then (some (c'.1, c'.2.1)) else (bd (fX0_refuse c'.2.2.2.2.1 (2 : Int32)) (fun t7 => some (t7.1, t7.2)))) else (some (c'.1, c'.2.1))) (fun t9 => bd (if t9.1 = (0 : Int32) then (bd (fX5_isWithin c'.2.2.2.2.2 l u) (fun t11 => if t11 = (0 : Int32) then (bd (fX0_refuse c'.2.2.2.2.1 (3 : Int32)) (fun t14 => some (t14.1, t14.2))) else (some (t9.1, t9.2)))) else (some (t9.1, t9.2))) (fun t16 => if t16.1 = (0 : Int32) then (some (c'.2.2.2.2.2, t16.1, t16.2, c'.2.2.1, c'.2.2.2.1, c'.2.2.2.2.1, c'.2.2.2.2.2)) else (some ((0 : Int32), t16.1, t16.2, c'.2.2.1, c'.2.2.2.1, c'.2.2.2.2.1, c'.2.2.2.2.2)))) = some (v, c1) ∧ bd (if m1.1 = (0 : Int32) then (if m1.2.2.2.2.1 = (2 : Int32) then (some (m1.1, m1.2.1)) else (bd (fX6_fails (m1.1) (m1.2.1) (m1.2.2.2.1) (2 : Int32)) (fun t3 => some (t3.1, t3.2)))) else (some (m1.1, m1.2.1))) (fun t5 => bd (if t5.1 = (0 : Int32) then (bd (fX6_in ((m1.2.2.2.2.2).toInt64) l.toInt64 u'.toInt64) (fun t7 => if t7 = (0 : Int32) then (bd (fX6_fails t5.1 t5.2 (m1.2.2.2.1) (3 : Int32)) (fun t10 => some (t10.1, t10.2))) else (some (t5.1, t5.2)))) else (some (t5.1, t5.2))) (fun t12 => if t12.1 = (0 : Int32) then (some (m1.2.2.2.2.2, t12.1, t12.2)) else (some (l, t12.1, t12.2)))) = some (v', w3, w4) ∧ TkR n lo c1 (w3, w4, m1.2.2.1, m1.2.2.2.1, m1.2.2.2.2.1, m1.2.2.2.2.2) ∧ ((c1.1 = 0 ∧ w3 = 0 ∧ m1.1 = 0 ∧ ∃ x, x ≤ 99 ∧ v = nI x ∧ v' = nI x ∧ l ≤ nI x ∧ nI x ≤ u) ∨ (0 < c1.1 ∧ 0 < w3 ∧ v = 0 ∧ v' = l)) := fun k1 k2 => by
      refine ⟨0, l, (2, c'.2.2.2.2.1, c'.2.2.1, c'.2.2.2.1, c'.2.2.2.2.1, c'.2.2.2.2.2), 2, m1.2.2.2.1, ?_, ?_, Or.inr ⟨show (0 : Int32) < 2 by decide, rfl, h8.trans h9.symm⟩, Or.inr ⟨show (0 : Int32) < 2 by decide, by decide, rfl, rfl⟩⟩
      · rw [if_pos h4, if_neg k1]
        simp only [fX0_refuse, bd_s, z20, ite_false]
      · rw [if_pos h5, if_neg k2]
        simp only [fX6_fails, bd_s, h5, ite_true, z20, ite_false]
    rcases ht with ht | ht | ht | ht
    · exact bad (by rw [ht.1]; decide) (by rw [ht.2]; decide)
    · exact bad (by rw [ht.2.1]; decide) (by rw [ht.2.2.1]; decide)
    · obtain ⟨k0, k1, k2, x, k3, k4, k5⟩ := ht
      have hu := hu h5
      subst hu
      rcases isW_c (nI x) l u with ⟨i1, i2, i3⟩ | ⟨-, i3⟩
      · refine ⟨nI x, nI x, c', 0, m1.2.1, ?_, ?_, ?_, Or.inl ⟨h4, rfl, h5, x, k3, rfl, rfl, i1, i2⟩⟩
        · rw [if_pos h4, if_pos k1, k4]
          simp only [bd_s, h4, ite_true, i3, one0, ite_false]
          rw [← h4, ← k4]
        · rw [if_pos h5, if_pos k2, k5, in_v_v]
          simp only [bd_s, h5, ite_true, i3, one0, ite_false]
        · rw [← h5]; exact hR0
      · refine ⟨0, l, (3, c'.2.2.2.2.1, c'.2.2.1, c'.2.2.2.1, c'.2.2.2.2.1, c'.2.2.2.2.2), 3, m1.2.2.2.1, ?_, ?_, Or.inr ⟨show (0 : Int32) < 3 by decide, rfl, h8.trans h9.symm⟩, Or.inr ⟨show (0 : Int32) < 3 by decide, by decide, rfl, rfl⟩⟩
        · rw [if_pos h4, if_pos k1, k4]
          simp only [bd_s, h4, ite_true, i3, fX0_refuse, z30, ite_false]
        · rw [if_pos h5, if_pos k2, k5, in_v_v]
          simp only [bd_s, h5, ite_true, i3, fX6_fails, z30, ite_false]
    · exact bad (by rw [ht.2.1]; decide) (by rw [ht.2.2]; decide)
  · have p1 := pos_ne h1
    have p2 : ¬ m1.1 = 0 := h2 ▸ p1
    refine ⟨0, l, c', m1.1, m1.2.1, ?_, ?_, Or.inr ⟨h1, h2, h3⟩, Or.inr ⟨h1, h2 ▸ h1, rfl, rfl⟩⟩
    · simp only [if_neg p1, bd_s]
    · simp only [if_neg p2, bd_s]
theorem stop_two {lo : Nat} {c m1 : K6} (h : NR tb n lo c m1) : ∃ (c2 : K6) (w3 w4 : Int32), fX0_takeStop c.1 c.2.1 c.2.2.1 c.2.2.2.1 c.2.2.2.2.1 c.2.2.2.2.2 tb (nI n) = some c2 ∧ (if m1.1 = (0 : Int32) then (if m1.2.2.2.2.1 = (3 : Int32) then (some (m1.1, m1.2.1)) else (bd (fX6_fails m1.1 m1.2.1 m1.2.2.2.1 (2 : Int32)) (fun t39 => some (t39.1, t39.2)))) else (some (m1.1, m1.2.1))) = some (w3, w4) ∧ TkR n lo c2 (w3, w4, m1.2.2.1, m1.2.2.2.1, m1.2.2.2.2.1, m1.2.2.2.2.2) ∧ (w3 = 0 → m1.1 = 0) := by
  obtain ⟨c', e1, hR⟩ := h
  unfold fX0_takeStop
  rw [e1, bd_s]
  have hR0 := hR
  rcases hR with ⟨a, b, h1, h2, h3, h4, h5, h6, h7, h8, h9, ht⟩ | ⟨h1, h2, h3⟩
  · by_cases k1 : c'.2.2.2.1 = 3
    · have k2 : m1.2.2.2.2.1 = 3 := by
        rcases ht with ht | ht | ht | ht
        · rw [ht.1] at k1; exact absurd k1 (by decide)
        · rw [ht.2.1] at k1; exact absurd k1 (by decide)
        · rw [ht.2.1] at k1; exact absurd k1 (by decide)
        · exact ht.2.2
      refine ⟨c', m1.1, m1.2.1, ?_, ?_, hR0, fun q => q⟩
      · rw [if_pos h4, if_pos k1]
      · rw [if_pos h5, if_pos k2]
    · have k2 : ¬ m1.2.2.2.2.1 = 3 := by
        rcases ht with ht | ht | ht | ht
        · rw [ht.2]; decide
        · rw [ht.2.2.1]; decide
        · rw [ht.2.2.1]; decide
        · exact absurd ht.2.1 k1
      refine ⟨(2, c'.2.2.2.2.1, c'.2.2.1, c'.2.2.2.1, c'.2.2.2.2.1, c'.2.2.2.2.2), 2, m1.2.2.2.1, ?_, ?_, Or.inr ⟨show (0 : Int32) < 2 by decide, rfl, h8.trans h9.symm⟩, fun q => absurd q (by decide)⟩
      · rw [if_pos h4, if_neg k1]
        rfl
      · rw [if_pos h5, if_neg k2]
        simp only [fX6_fails, bd_s, h5, ite_true]
  · have p1 := pos_ne h1
    have p2 : ¬ m1.1 = 0 := h2 ▸ p1
    refine ⟨c', m1.1, m1.2.1, ?_, ?_, Or.inr ⟨h1, h2, h3⟩, fun q => q⟩
    · rw [if_neg p1]
    · rw [if_neg p2]
end Tape
end TextB
