section EdgeJ
def MinOf (C : Nat → Prop) (L : Nat) : Prop := L ≤ 1000000 ∧ (∀ v, v < L → ¬ C v) ∧ (L = 1000000 ∨ C L)
theorem Min_none {C : Nat → Prop} (h : ∀ v, ¬ C v) : MinOf C 1000000 := ⟨by omega, fun v _ => h v, Or.inl rfl⟩
theorem Min_iff {C D : Nat → Prop} {L : Nat} (h : MinOf C L) (e : ∀ v, C v ↔ D v) : MinOf D L := by
  obtain ⟨a, b, c⟩ := h
  refine ⟨a, fun v hv q => b v hv ((e v).mpr q), ?_⟩
  rcases c with c | c
  · exact Or.inl c
  · exact Or.inr ((e L).mp c)
theorem Min_or {C D : Nat → Prop} {L x : Nat} (h : MinOf C L) (h' : MinOf D x) : MinOf (fun v => C v ∨ D v) (if x < L then x else L) := by
  obtain ⟨a, b, c⟩ := h
  obtain ⟨a', b', c'⟩ := h'
  by_cases z : x < L
  · rw [if_pos z]
    refine ⟨a', fun v hv q => ?_, ?_⟩
    · rcases q with q | q
      · exact b v (by omega) q
      · exact b' v hv q
    · rcases c' with c' | c'
      · exact Or.inl c'
      · exact Or.inr (Or.inr c')
  · rw [if_neg z]
    refine ⟨a, fun v hv q => ?_, ?_⟩
    · rcases q with q | q
      · exact b v hv q
      · exact b' v (by omega) q
    · rcases c with c | c
      · exact Or.inl c
      · exact Or.inr (Or.inl c)
theorem Min_Lst {C M : Nat → Prop} {L hi : Nat} (h : MinOf C L) (hh : hi < 1000000) (e : ∀ v, v < hi → (C v ↔ M v)) : Lst M 0 hi (if L < hi then nI L else -4) := by
  obtain ⟨a, b, c⟩ := h
  by_cases z : L < hi
  · rw [if_pos z]
    refine Or.inr ⟨L, by omega, z, rfl, (e L z).mp ?_, fun i _ hi2 q => b i hi2 ((e i (by omega)).mpr q)⟩
    rcases c with c | c
    · omega
    · exact c
  · rw [if_neg z]
    exact Or.inl ⟨rfl, fun j _ hj q => b j (by omega) ((e j hj).mpr q)⟩
theorem few {lack each : Int32} (h1 : lack.toInt ≤ 400000000) (h2 : each.toInt ≤ 0 ∨ 800 ≤ each.toInt) (h3 : each.toInt ≤ 1000000) : ∃ x : Nat, fX5_fewestSteps lack each = some (nI x) ∧ MinOf (fun v => lack.toInt ≤ (v : Int) * each.toInt) x := by
  have y0 : (0 : Int32).toInt = 0 := rfl
  have y1 : (1 : Int32).toInt = 1 := rfl
  unfold fX5_fewestSteps
  by_cases c : 0 < lack
  · have c' := c
    rw [fa_lt, y0] at c'
    rw [if_pos c]
    by_cases d : 0 < each
    · have d' := d
      rw [fa_lt, y0] at d'
      rw [if_pos d, ckN_ok (by intro q; rw [q, y0] at d'; omega)]
      have e1 : (lack + each).toInt = lack.toInt + each.toInt := fb_addI (by omega) (by omega)
      have e2 : (lack + each - 1).toInt = lack.toInt + each.toInt - 1 := by rw [fb_subI (by rw [e1, y1]; omega) (by rw [e1, y1]; omega), e1, y1]
      have e3 : ((lack + each - 1) / each).toInt = (lack.toInt + each.toInt - 1) / each.toInt := by
        rw [div32 d', e2, Int.tdiv_eq_ediv_of_nonneg (by omega)]
      have f1 : 0 ≤ (lack.toInt + each.toInt - 1) / each.toInt := Int.ediv_nonneg (by omega) (by omega)
      have f2 : (lack.toInt + each.toInt - 1) / each.toInt * each.toInt ≤ lack.toInt + each.toInt - 1 := Int.ediv_mul_le _ (by omega)
      have f3 : lack.toInt + each.toInt - 1 < ((lack.toInt + each.toInt - 1) / each.toInt + 1) * each.toInt := Int.lt_ediv_add_one_mul_self _ (by omega)
      rw [Int.add_mul, Int.one_mul] at f3
      generalize (lack.toInt + each.toInt - 1) / each.toInt = X at e3 f1 f2 f3
      have f4 : X ≤ 999999 := by
        rcases Int.lt_or_le 999999 X with z | z
        · have := Int.mul_le_mul (show (1000000 : Int) ≤ X by omega) (show (800 : Int) ≤ each.toInt by omega) (by omega) f1
          omega
        · exact z
      refine ⟨X.toNat, ?_, by omega, ?_, ?_⟩
      · congr 1
        exact eq32 (by rw [e3, nI_toInt (by omega)]; omega)
      · intro v hv q
        have := Int.mul_le_mul_of_nonneg_right (show (v : Int) + 1 ≤ X by omega) (show 0 ≤ each.toInt by omega)
        rw [Int.add_mul, Int.one_mul] at this
        omega
      · refine Or.inr ?_
        show lack.toInt ≤ ((X.toNat : Nat) : Int) * each.toInt
        rw [Int.toNat_of_nonneg f1]
        omega
    · have d' := d
      rw [fa_lt, y0] at d'
      rw [if_neg d]
      refine ⟨1000000, rfl, Min_none (fun v q => ?_)⟩
      have := Int.mul_nonneg (show 0 ≤ (v : Int) by omega) (show 0 ≤ -each.toInt by omega)
      rw [Int.mul_neg] at this
      omega
  · have c' := c
    rw [fa_lt, y0] at c'
    rw [if_neg c]
    refine ⟨0, rfl, by omega, fun v hv => by omega, Or.inr ?_⟩
    show lack.toInt ≤ (0 : Int) * each.toInt
    rw [Int.zero_mul]
    omega
theorem si_one {f g : Nat → Int} {s : Nat} : ∀ {n : Nat}, s < n → (∀ i, i < n → ¬ i = s → g i = f i) → fb_si g n = fb_si f n + (g s - f s)
  | 0, h, _ => by omega
  | n + 1, h, hh => by
    show fb_si g n + g n = fb_si f n + f n + (g s - f s)
    by_cases z : s = n
    · subst z
      have e : fb_si g s = fb_si f s := by
        have : ∀ {m : Nat}, m ≤ s → fb_si g m = fb_si f m := by
          intro m
          induction m with
          | zero => intro _; rfl
          | succ m ih =>
            intro hm
            show fb_si g m + g m = fb_si f m + f m
            rw [ih (by omega), hh m (by omega) (by omega)]
        exact this (Nat.le_refl s)
      rw [e]; omega
    · rw [si_one (n := n) (by omega) (fun i hi => hh i (by omega)), hh n (by omega) (fun q => z q.symm)]
      omega
theorem hk00 : VO (0 : Int32) (0 : Int32) := ⟨by decide, by decide, by decide, by decide, by decide⟩
theorem al_0 {Q : Stk} {p : Int32} {i : Nat} : oAl Q 0 0 p i = if p < Q.2.2.1 i then 0 else 1 := by
  unfold oAl qAl cwh
  rw [if_neg (by decide), if_neg (by decide), if_neg (by decide)]
theorem co_0 {Q : Stk} {p : Int32} {i : Nat} : oCo Q 0 0 p i = if p < Q.2.2.1 i then Q.2.2.2.2.2.1 i else Q.2.1 i := by
  have e : oCo Q 0 0 p i = comeI 0 (oAl Q 0 0 p i) (Q.2.1 i) (Q.2.2.2.2.2.1 i) := rfl
  rw [e, al_0]
  unfold comeI
  by_cases c : p < Q.2.2.1 i
  · rw [if_pos c, if_pos c, if_pos rfl, if_neg (by decide)]
  · rw [if_neg c, if_neg c, if_neg (by decide)]
theorem sa_0 {Q : Stk} (hB : SB Q) {p : Int32} {i : Nat} (hi : i < Q.1) : (oSa Q 0 0 p i).toInt = 800 * (oCo Q 0 0 p i).toInt := by
  rw [(sa_b hB hk00 hi).1]
  unfold oneI
  rw [if_neg (by decide), if_neg (by decide)]
  have : (800 : Int32).toInt = 800 := rfl
  rw [this]; omega
theorem si_cong {f g : Nat → Int} : ∀ {n : Nat}, (∀ i, i < n → f i = g i) → fb_si f n = fb_si g n
  | 0, _ => rfl
  | n + 1, h => by
    show fb_si f n + f n = fb_si g n + g n
    rw [si_cong (n := n) (fun i hi => h i (by omega)), h n (by omega)]
theorem pa_0 {Q : Stk} (hB : SB Q) {p : Int32} : (oParts Q 0 0 p).toInt = fb_si (fun i => 800 * (oCo Q 0 0 p i).toInt) Q.1 := by
  rw [(parts_i hB hk00).1]
  exact si_cong (fun i hi => sa_0 hB hi)
theorem te_0 {Q : Stk} (hB : SB Q) {p : Int32} : (oTenths Q 0 0 p).toInt = fb_si (fun i => 800 * (oCo Q 0 0 p i).toInt * (10 * (Q.2.2.2.1 i).toInt)) Q.1 := by
  rw [tenths_i hB hk00]
  have e : payI Q 0 0 p = 0 := by unfold payI; rw [if_neg (by decide)]
  rw [e, Int.mul_zero, Int.sub_zero]
  refine si_cong (fun i hi => ?_)
  have b := (va_b hB hk00 hi).1
  rw [if_neg (by decide), Int.add_zero] at b
  rw [sa_0 hB hi, b]
/-- one that comes whole brings parts -/
theorem pa_pos {Q : Stk} (hB : SB Q) {p : Int32} {s : Nat} (hs : s < Q.1) (h : ¬ oAl Q 0 0 p s = 0) : 0 < (oParts Q 0 0 p).toInt ∧ 800 ≤ (oSa Q 0 0 p s).toInt := by
  have e : (oSa Q 0 0 p s).toInt = 800 * (Q.2.1 s).toInt := by
    rw [sa_0 hB hs, co_0]
    rw [al_0] at h
    by_cases c : p < Q.2.2.1 s
    · rw [if_pos c] at h; exact absurd rfl h
    · rw [if_neg c]
  have hm := (hB.2.1 s hs).1
  have e2 : 800 ≤ (oSa Q 0 0 p s).toInt := by omega
  refine ⟨?_, e2⟩
  rw [(parts_i hB hk00).1]
  have : ∀ n, s < n → n ≤ Q.1 → 800 ≤ fb_si (fun i => (oSa Q 0 0 p i).toInt) n := by
    intro n
    induction n with
    | zero => intro h; omega
    | succ n ih =>
      intro h1 h2
      show 800 ≤ fb_si (fun i => (oSa Q 0 0 p i).toInt) n + (oSa Q 0 0 p n).toInt
      have nn : 0 ≤ fb_si (fun i => (oSa Q 0 0 p i).toInt) n := si_nonneg (fun i hi => (sa_b hB hk00 (show i < Q.1 by omega)).2.1)
      have pn := (sa_b hB (p := p) hk00 (show n < Q.1 by omega)).2.1
      by_cases z : s = n
      · rw [← z]; rw [← z] at nn; omega
      · have := ih (by omega) (by omega); omega
  have := this Q.1 hs (Nat.le_refl _)
  omega
end EdgeJ
