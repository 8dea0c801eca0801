section TextA
/-- the tape's bytes as numbers -/
def TP (n : Nat) (tb mr : Nat → Int32) (g : Nat → Nat) : Prop := n ≤ 240 ∧ ∀ j, j < n → g j < 256 ∧ mr j = nI (g j) ∧ (g j < 128 → tb j = nI (g j)) ∧ (128 ≤ g j → tb j < 0)
theorem neg8 : ∀ j, j < 256 → 128 ≤ j → (nI j).toInt8.toInt32 < 0 := by decide +kernel
theorem tape_g {n : Nat} {tb mr : Nat → Int32} (hn : n ≤ 240) (h : ∀ j, j < n → (tb j).toInt8.toInt32 = tb j ∧ mr j = tb j &&& 255) : TP n tb mr (fun j => (tb j).toBitVec.toNat % 256) := by
  refine ⟨hn, fun j hj => ?_⟩
  obtain ⟨h1, h2⟩ := h j hj
  have h3 : (tb j).toBitVec.toNat % 256 < 256 := Nat.mod_lt _ (by omega)
  have h4 : tb j = (nI ((tb j).toBitVec.toNat % 256)).toInt8.toInt32 := (sc_eq h1 h3).mpr (and255 _)
  refine ⟨h3, h2.trans (and255 _), fun q => h4.trans (fa_byte_small q), fun q => ?_⟩
  rw [h4]
  exact neg8 _ h3 q
theorem loop_run {V T : Type} {B : V → Option (V ⊕ T)} (f : Nat → V) {a e : Nat} {t : T} (hs : ∀ j, a ≤ j → j < e → B (f j) = some (.inl (f (j + 1)))) (he : B (f e) = some (.inr t)) : ∀ (d k F : Nat), a ≤ k → k + d = e → d < F → loopF B F (f k) = some t := by
  intro d
  induction d with
  | zero =>
    intro k F ha hk hF
    obtain ⟨F, rfl⟩ : ∃ m, F = m + 1 := ⟨F - 1, by omega⟩
    have : k = e := by omega
    subst this
    exact loop_end he
  | succ d ih =>
    intro k F ha hk hF
    obtain ⟨F, rfl⟩ : ∃ m, F = m + 1 := ⟨F - 1, by omega⟩
    rw [loop_go (hs k ha (by omega))]
    exact ih (k + 1) F (by omega) (by omega) (by omega)
/-- where a run of such bytes ends -/
theorem run_end (p : Nat → Prop) (n : Nat) : ∀ (d a : Nat), a + d = n → ∃ e, a ≤ e ∧ e ≤ n ∧ (∀ j, a ≤ j → j < e → p j) ∧ (e = n ∨ e < n ∧ ¬ p e) := by
  intro d
  induction d with
  | zero => intro a h; exact ⟨a, Nat.le_refl a, by omega, fun j h1 h2 => by omega, Or.inl (by omega)⟩
  | succ d ih =>
    intro a h
    by_cases hp : p a
    · obtain ⟨e, h1, h2, h3, h4⟩ := ih (a + 1) (by omega)
      refine ⟨e, by omega, h2, fun j g1 g2 => ?_, h4⟩
      by_cases e1 : j = a
      · rw [e1]; exact hp
      · exact h3 j (by omega) g2
    · exact ⟨a, Nat.le_refl a, by omega, fun j h1 h2 => by omega, Or.inr ⟨by omega, hp⟩⟩
def inB (g : Nat → Nat) (l h : Nat) (j : Nat) : Prop := l ≤ g j ∧ g j ≤ h
section Tape
variable {n : Nat} {tb mr : Nat → Int32} {g : Nat → Nat}
theorem b3_in (hT : TP n tb mr g) {j l h : Nat} (hj : j < n) (hh : h < 128) (hi : inB g l h j) : fX0_endOfRun_b3 (nI l) (nI h) (nI n) tb (nI j) = some (.inl (nI (j + 1))) := by
  have hn := hT.1
  obtain ⟨h1, h2, h3, h4⟩ := hT.2 j hj
  unfold inB at hi
  unfold fX0_endOfRun_b3
  rw [if_neg (nle hj (by omega)), ckI_nI (by omega) (by omega), nI_clamp (by omega), h3 (by omega), if_neg (nI_nlt hi.1 (by omega)), ckI_nI (by omega) (by omega), if_neg (nI_nlt hi.2 (by omega)), nI_1]
theorem b3_out (hT : TP n tb mr g) {j l h : Nat} (hj : j < n) (hl : l < 128) (hh : h < 128) (hi : ¬ inB g l h j) : fX0_endOfRun_b3 (nI l) (nI h) (nI n) tb (nI j) = some (.inr (nI j)) := by
  have hn := hT.1
  obtain ⟨h1, h2, h3, h4⟩ := hT.2 j hj
  unfold inB at hi
  unfold fX0_endOfRun_b3
  rw [if_neg (nle hj (by omega)), ckI_nI (by omega) (by omega), nI_clamp (by omega)]
  by_cases c : g j < 128
  · rw [h3 c]
    by_cases c1 : g j < l
    · rw [if_pos (nI_lt c1 (by omega))]
    · rw [if_neg (nI_nlt (by omega) (by omega)), ckI_nI (by omega) (by omega), if_pos (nI_lt (by omega) (by omega))]
  · have z := h4 (by omega)
    have z2 : tb j < nI l := by
      have := nI_toInt (n := l) (by omega)
      rw [fa_lt] at z ⊢
      have z0 : (0 : Int32).toInt = 0 := rfl
      omega
    rw [if_pos z2]
theorem b3_end {l h : Nat} (hn : n ≤ 240) : fX0_endOfRun_b3 (nI l) (nI h) (nI n) tb (nI n) = some (.inr (nI n)) := by
  unfold fX0_endOfRun_b3
  rw [if_pos (nI_le (Nat.le_refl n) (by omega))]
theorem run5 (hT : TP n tb mr g) {a e l h : Nat} (hl : l < 128) (hh : h < 128) (ha : a ≤ e) (he : e ≤ n) (hr : ∀ j, a ≤ j → j < e → inB g l h j) (hx : e = n ∨ e < n ∧ ¬ inB g l h e) : fX0_endOfRun tb (nI n) (nI a) (nI l) (nI h) = some (nI e) := by
  have hn := hT.1
  unfold fX0_endOfRun
  rw [loop_run (fun j => nI j) (a := a) (e := e) (t := nI e) (fun j h1 h2 => b3_in hT (by omega) hh (hr j h1 h2)) (by
    rcases hx with rfl | ⟨h1, h2⟩
    · exact b3_end hn
    · exact b3_out hT h1 hl hh h2) (e - a) a 1000 (Nat.le_refl a) (by omega) (by omega), bd_s]
theorem at6 (hT : TP n tb mr g) {j : Nat} (hj : j < n) : fX6_byteAt mr (nI n) (nI j) = some (nI (g j)) := by
  have hn := hT.1
  unfold fX6_byteAt
  rw [if_neg (nle hj (by omega)), ckI_nI (by omega) (by omega), nI_clamp (by omega), (hT.2 j hj).2.1]
theorem at6n (hn : n ≤ 240) : fX6_byteAt mr (nI n) (nI n) = some (-4) := by
  unfold fX6_byteAt
  rw [if_pos (nI_le (Nat.le_refl n) (by omega))]
theorem isW_n {c l h : Nat} (hc : c < 256) (hl : l < 128) (hh : h < 128) : fX5_isWithin (nI c) (nI l) (nI h) = some (if l ≤ c ∧ c ≤ h then 1 else 0) := by
  by_cases q : l ≤ c ∧ c ≤ h
  · rw [if_pos q]; exact isW_t (nI_le q.1 (by omega)) (nI_le q.2 (by omega))
  · rw [if_neg q]; exact isW_f (fun z => q ⟨(nI_leI (by omega) (by omega)).mp z.1, (nI_leI (by omega) (by omega)).mp z.2⟩)
theorem in_az (x : Int32) : fX6_in x.toInt64 (97 : Int64) (122 : Int64) = fX5_isWithin x (nI 97) (nI 122) := inW (a := 97) (b := 122) rfl rfl
theorem in_09 (x : Int32) : fX6_in x.toInt64 (48 : Int64) (57 : Int64) = fX5_isWithin x (nI 48) (nI 57) := inW (a := 48) (b := 57) rfl rfl
theorem isW_m4 {l h : Nat} (hl : l < 128) : fX5_isWithin (-4) (nI l) (nI h) = some 0 := isW_f (fun z => by
  have z1 := z.1
  rw [fa_le, nI_toInt (by omega)] at z1
  have z0 : (-4 : Int32).toInt = -4 := rfl
  omega)
theorem skip6 (hT : TP n tb mr g) {a e : Nat} (ha : a ≤ e) (he : e ≤ n) (hr : ∀ j, a ≤ j → j < e → inB g 32 32 j) (hx : e = n ∨ e < n ∧ ¬ inB g 32 32 e) : loopF (fX6_next_b8 mr (nI n)) 1000 (nI a) = some (nI e) := by
  have hn := hT.1
  refine loop_run (fun j => nI j) (a := a) (e := e) (t := nI e) (fun j h1 h2 => ?_) ?_ (e - a) a 1000 (Nat.le_refl a) (by omega) (by omega)
  · have q := hr j h1 h2
    unfold inB at q
    show fX6_next_b8 mr (nI n) (nI j) = _
    unfold fX6_next_b8
    rw [at6 hT (by omega), bd_s, if_pos (by rw [show g j = 32 by omega]; rfl), nI_1]
  · show fX6_next_b8 mr (nI n) (nI e) = _
    unfold fX6_next_b8
    rcases hx with rfl | ⟨h1, h2⟩
    · rw [at6n hn, bd_s, if_neg (by decide)]
    · unfold inB at h2
      have hg := (hT.2 e h1).1
      rw [at6 hT h1, bd_s, if_neg (fun q => h2 (by have := (nI_eq (b := 32) (by omega) (by omega)).mp q; omega))]
theorem az6 (hT : TP n tb mr g) {a e : Nat} (ha : a ≤ e) (he : e ≤ n) (hr : ∀ j, a ≤ j → j < e → inB g 97 122 j) (hx : e = n ∨ e < n ∧ ¬ inB g 97 122 e) : loopF (fX6_next_b84 mr (nI n)) 1000 (nI a) = some (nI e) := by
  have hn := hT.1
  refine loop_run (fun j => nI j) (a := a) (e := e) (t := nI e) (fun j h1 h2 => ?_) ?_ (e - a) a 1000 (Nat.le_refl a) (by omega) (by omega)
  · have q := hr j h1 h2
    unfold inB at q
    have hg := (hT.2 j (by omega)).1
    show fX6_next_b84 mr (nI n) (nI j) = _
    unfold fX6_next_b84
    rw [at6 hT (by omega), bd_s, in_az, isW_n hg (by omega) (by omega), bd_s, if_pos q, if_neg (by decide), nI_1]
  · show fX6_next_b84 mr (nI n) (nI e) = _
    unfold fX6_next_b84
    rcases hx with rfl | ⟨h1, h2⟩
    · rw [at6n hn, bd_s, in_az, isW_m4 (by omega), bd_s, if_pos rfl]
    · unfold inB at h2
      have hg := (hT.2 e h1).1
      rw [at6 hT h1, bd_s, in_az, isW_n hg (by omega) (by omega), bd_s, if_neg h2, if_pos rfl]
/-! numbers -/
def nvC (tb : Nat → Int32) (b : Nat) : Nat → Int32
  | 0 => 0
  | k + 1 => 10 * nvC tb b k + tb (b + k) - 48
def nvM (g : Nat → Nat) (b : Nat) : Nat → Int32
  | 0 => 0
  | k + 1 => if 2 ≤ k then nvM g b k else 10 * nvM g b k + nI (g (b + k)) - 48
theorem num5 (hT : TP n tb mr g) {b m : Nat} (hm : b + m ≤ n) : fX0_numberAtHand (nI (b + m)) (nI b) tb = some (nvC tb b m) := by
  have hn := hT.1
  unfold fX0_numberAtHand
  rw [show ((0 : Int32), nI b) = (nvC tb b 0, nI (b + 0)) from rfl, loop_run (B := fX0_numberAtHand_b7 (nI (b + m)) tb) (fun k => (nvC tb b k, nI (b + k))) (a := 0) (e := m) (t := nvC tb b m) (fun k _ h2 => by
      show fX0_numberAtHand_b7 (nI (b + m)) tb (nvC tb b k, nI (b + k)) = _
      unfold fX0_numberAtHand_b7
      dsimp only
      rw [if_neg (nle (by omega) (by omega)), ckI_nI (by omega) (by omega), nI_clamp (by omega), nI_1]
      rfl) (by
      show fX0_numberAtHand_b7 (nI (b + m)) tb (nvC tb b m, nI (b + m)) = _
      unfold fX0_numberAtHand_b7
      dsimp only
      rw [if_pos (nI_le (Nat.le_refl _) (by omega))]) m 0 1000 (by omega) (by omega) (by omega), bd_s]
theorem num6 (hT : TP n tb mr g) {b m : Nat} (hm : b + m ≤ n) (hr : ∀ j, b ≤ j → j < b + m → inB g 48 57 j) (hx : b + m = n ∨ b + m < n ∧ ¬ inB g 48 57 (b + m)) : loopF (fX6_next_b170 mr (nI n) (nI b)) 1000 (nI b, (0 : Int32)) = some (nI (b + m), nvM g b m) := by
  have hn := hT.1
  refine loop_run (B := fX6_next_b170 mr (nI n) (nI b)) (fun k => (nI (b + k), nvM g b k)) (a := 0) (e := m) (t := (nI (b + m), nvM g b m)) (fun k _ h2 => ?_) ?_ m 0 1000 (by omega) (by omega) (by omega)
  · have q := hr (b + k) (by omega) (by omega)
    unfold inB at q
    have hg := (hT.2 (b + k) (by omega)).1
    show fX6_next_b170 mr (nI n) (nI b) (nI (b + k), nvM g b k) = some (.inl (nI (b + k + 1), nvM g b (k + 1)))
    unfold fX6_next_b170
    dsimp only
    rw [at6 hT (by omega), bd_s, in_09, isW_n hg (by omega) (by omega), bd_s, if_pos q, if_neg (by decide), pk_sub (by omega), show b + k - b = k by omega]
    by_cases c : 2 ≤ k
    · rw [if_pos (show (2 : Int32) ≤ nI k from nI_le (a := 2) c (by omega)), bd_s, nI_1, nvM, if_pos c]
    · rw [if_neg (show ¬ (2 : Int32) ≤ nI k from nI_ge (b := 2) (by omega) (by omega)), bd_s, bd_s, nI_1, nvM, if_neg c]
  · show fX6_next_b170 mr (nI n) (nI b) (nI (b + m), nvM g b m) = _
    unfold fX6_next_b170
    dsimp only
    rcases hx with h | ⟨h1, h2⟩
    · rw [h, at6n hn, bd_s, in_09, isW_m4 (by omega), bd_s, if_pos rfl]
    · unfold inB at h2
      have hg := (hT.2 _ h1).1
      rw [at6 hT h1, bd_s, in_09, isW_n hg (by omega) (by omega), bd_s, if_neg h2, if_pos rfl]
theorem num_eq (hT : TP n tb mr g) {b m : Nat} (hm : b + m ≤ n) (h0 : 0 < m) (h2 : m ≤ 2) (hr : ∀ j, b ≤ j → j < b + m → inB g 48 57 j) : ∃ x, x ≤ 99 ∧ nvC tb b m = nI x ∧ nvM g b m = nI x := by
  have e1 : ∀ c, 48 ≤ c → (10 : Int32) * 0 + nI c - 48 = nI (c - 48) := fun c hc => by
    rw [show (10 : Int32) * 0 = nI 0 from rfl, nI_add, show (48 : Int32) = nI 48 from rfl, pk_sub (by omega), Nat.zero_add]
  have e2 : ∀ x c, 48 ≤ c → (10 : Int32) * nI x + nI c - 48 = nI (10 * x + (c - 48)) := fun x c hc => by
    rw [show (10 : Int32) * nI x = nI (10 * x) from pk_mul 10 x, nI_add, show (48 : Int32) = nI 48 from rfl, pk_sub (by omega), Nat.add_sub_assoc hc]
  have q0 := hr b (by omega) (by omega)
  unfold inB at q0
  have t0 := (hT.2 b (by omega)).2.2.1 (by omega)
  have c1 : nvC tb b 1 = nI (g b - 48) := by
    show (10 : Int32) * 0 + tb (b + 0) - 48 = _
    rw [Nat.add_zero, t0]; exact e1 _ q0.1
  have m1 : nvM g b 1 = nI (g b - 48) := by
    show (if 2 ≤ 0 then (0 : Int32) else 10 * 0 + nI (g (b + 0)) - 48) = _
    rw [if_neg (by omega), Nat.add_zero]; exact e1 _ q0.1
  rcases (show m = 1 ∨ m = 2 by omega) with rfl | rfl
  · exact ⟨_, by omega, c1, m1⟩
  · have q1 := hr (b + 1) (by omega) (by omega)
    unfold inB at q1
    have t1 := (hT.2 (b + 1) (by omega)).2.2.1 (by omega)
    refine ⟨10 * (g b - 48) + (g (b + 1) - 48), by omega, ?_, ?_⟩
    · show (10 : Int32) * nvC tb b 1 + tb (b + 1) - 48 = _
      rw [c1, t1]; exact e2 _ _ q1.1
    · show (if 2 ≤ 1 then nvM g b 1 else 10 * nvM g b 1 + nI (g (b + 1)) - 48) = _
      rw [if_neg (by omega), m1]; exact e2 _ _ q1.1
/-! names -/
def lets : List Nat := [115, 111, 114, 116, 102, 97, 105, 108, 109, 117, 115, 116, 109, 97, 114, 107, 108, 111, 111, 107, 107, 101, 101, 110]
def codN (q : Nat) : Nat := [1936683636, 1717660012, 1836413812, 1835102827, 1819242347, 1801807214].getD q 0
def mat (g : Nat → Nat) (b q : Nat) : Prop := g b = lets.getD (4 * q) 0 ∧ g (b + 1) = lets.getD (4 * q + 1) 0 ∧ g (b + 2) = lets.getD (4 * q + 2) 0 ∧ g (b + 3) = lets.getD (4 * q + 3) 0
theorem lets_b : ∀ j, j < 24 → lets.getD j 0 < 128 := by decide
theorem name5 (hT : TP n tb mr g) {b : Nat} (hb : b + 4 ≤ n) (hr : ∀ j, b ≤ j → j < b + 4 → inB g 97 122 j) : fX0_nameAtHand (nI (b + 4)) (nI b) tb = some (nI (256 * (256 * (256 * g b + g (b + 1)) + g (b + 2)) + g (b + 3))) := by
  have hn := hT.1
  have q0 := hr b (by omega) (by omega)
  have q1 := hr (b + 1) (by omega) (by omega)
  have q2 := hr (b + 2) (by omega) (by omega)
  have q3 := hr (b + 3) (by omega) (by omega)
  unfold inB at q0 q1 q2 q3
  have st : ∀ (V k : Nat), k < 4 → V < 8388608 → fX0_nameAtHand_b22 (nI (b + 4)) tb (nI V, nI (b + k)) = some (.inl (nI (256 * V + g (b + k)), nI (b + k + 1))) := fun V k hk hV => by
    have hg := hT.2 (b + k) (by omega)
    have hi := hr (b + k) (by omega) (by omega)
    unfold inB at hi
    unfold fX0_nameAtHand_b22
    dsimp only
    rw [if_neg (nle (by omega) (by omega)), ckI_nI (by omega) (by omega), nI_clamp (by omega), hg.2.2.1 (by omega), nI_1, pk_shlN ((8 : Int32) &&& 31) 8 (by decide) (by omega), Nat.mul_comm V, fa_or_sum (k := 8) V (by omega)]
  unfold fX0_nameAtHand
  rw [if_pos (show nI (b + 4) - nI b = 4 by rw [pk_sub (by omega), show b + 4 - b = 4 by omega]; rfl)]
  have s0 := st 0 0 (by omega) (by omega)
  simp only [Nat.mul_zero, Nat.zero_add, Nat.add_zero] at s0
  rw [show ((0 : Int32), nI b) = (nI 0, nI b) from rfl, loop_go (n := 999) s0, loop_go (n := 998) (st _ 1 (by omega) (by omega)), loop_go (n := 997) (st _ 2 (by omega) (by omega)), loop_go (n := 996) (st _ 3 (by omega) (by omega)), loop_end (n := 995) (t := nI (256 * (256 * (256 * g b + g (b + 1)) + g (b + 2)) + g (b + 3))) (by
    unfold fX0_nameAtHand_b22
    dsimp only
    rw [if_pos (nI_le (Nat.le_refl _) (by omega))]), bd_s]
theorem name39 (hT : TP n tb mr g) {cuts letters : Nat → Int32} (hC : RConst cuts letters) {b q : Nat} (hb : b + 4 ≤ n) (hq : q < 6) : (mat g b q ∧ loopF (fX6_nameAt_b39 (nI b) (nI (b + 4)) (nI q) mr (nI n) cuts letters) 1000 ((1 : Int32), (0 : Int32)) = some 1) ∨ (¬ mat g b q ∧ loopF (fX6_nameAt_b39 (nI b) (nI (b + 4)) (nI q) mr (nI n) cuts letters) 1000 ((1 : Int32), (0 : Int32)) = some 0) := by
  have hn := hT.1
  have e4 : nI (b + 4) - nI b = nI 4 := by rw [pk_sub (by omega), show b + 4 - b = 4 by omega]
  have st : ∀ k, k < 4 → fX6_nameAt_b39 (nI b) (nI (b + 4)) (nI q) mr (nI n) cuts letters ((1 : Int32), nI k) = some (.inl (if g (b + k) = lets.getD (4 * q + k) 0 then 1 else 0, nI (k + 1))) := fun k hk => by
    have hg := (hT.2 (b + k) (by omega)).1
    have hl : letters (4 * q + k) = nI (lets.getD (4 * q + k) 0) := hC.2 (4 * q + k) (by omega)
    have hlb := lets_b (4 * q + k) (by omega)
    unfold fX6_nameAt_b39
    dsimp only
    rw [if_neg (by decide), e4, if_neg (nle hk (by omega)), nI_add, at6 hT (by omega), bd_s, ckI_nI (by omega) (by omega), nI_clamp (by omega), hC.1 q (by omega), nI_add, ckI_nI (by omega) (by omega), nI_clamp (by omega), hl, nI_1]
    by_cases c : g (b + k) = lets.getD (4 * q + k) 0
    · rw [if_pos (by rw [c]), if_pos c, bd_s]
    · rw [if_neg (fun z => c ((nI_eq (by omega) (by omega)).mp z)), if_neg c, bd_s]
  have no : ∀ k, fX6_nameAt_b39 (nI b) (nI (b + 4)) (nI q) mr (nI n) cuts letters ((0 : Int32), nI k) = some (.inr 0) := fun k => by
    unfold fX6_nameAt_b39
    dsimp only
    rw [if_pos rfl]
  have yes : fX6_nameAt_b39 (nI b) (nI (b + 4)) (nI q) mr (nI n) cuts letters ((1 : Int32), nI 4) = some (.inr 1) := by
    unfold fX6_nameAt_b39
    dsimp only
    rw [if_neg (by decide), e4, if_pos (nI_le (Nat.le_refl 4) (by omega))]
  have s0 := st 0 (by omega)
  have s1 := st 1 (by omega)
  have s2 := st 2 (by omega)
  have s3 := st 3 (by omega)
  unfold mat
  rw [show ((1 : Int32), (0 : Int32)) = ((1 : Int32), nI 0) from rfl, loop_go (n := 999) s0]
  by_cases c0 : g (b + 0) = lets.getD (4 * q + 0) 0
  · rw [if_pos c0, loop_go (n := 998) s1]
    by_cases c1 : g (b + 1) = lets.getD (4 * q + 1) 0
    · rw [if_pos c1, loop_go (n := 997) s2]
      by_cases c2 : g (b + 2) = lets.getD (4 * q + 2) 0
      · rw [if_pos c2, loop_go (n := 996) s3]
        by_cases c3 : g (b + 3) = lets.getD (4 * q + 3) 0
        · rw [if_pos c3, loop_end (n := 995) yes]
          exact Or.inl ⟨⟨c0, c1, c2, c3⟩, rfl⟩
        · rw [if_neg c3, loop_end (n := 995) (no _)]
          exact Or.inr ⟨fun z => c3 z.2.2.2, rfl⟩
      · rw [if_neg c2, loop_end (n := 996) (no _)]
        exact Or.inr ⟨fun z => c2 z.2.2.1, rfl⟩
    · rw [if_neg c1, loop_end (n := 997) (no _)]
      exact Or.inr ⟨fun z => c1 z.2.1, rfl⟩
  · rw [if_neg c0, loop_end (n := 998) (no _)]
    exact Or.inr ⟨fun z => c0 z.1, rfl⟩
theorem name6 (hT : TP n tb mr g) {cuts letters : Nat → Int32} (hC : RConst cuts letters) {b : Nat} (hb : b + 4 ≤ n) : (∃ q, q < 6 ∧ mat g b q ∧ fX6_nameAt mr cuts letters (nI n) (nI b) (nI (b + 4)) = some (nI q)) ∨ ((∀ q, q < 6 → ¬ mat g b q) ∧ fX6_nameAt mr cuts letters (nI n) (nI b) (nI (b + 4)) = some (-4)) := by
  have hn := hT.1
  have e4 : nI (b + 4) - nI b = nI 4 := by rw [pk_sub (by omega), show b + 4 - b = 4 by omega]
  have st : ∀ q, q < 6 → (mat g b q ∧ fX6_nameAt_b2 (nI b) (nI (b + 4)) cuts mr (nI n) letters (nI q) = some (.inr (.inl (nI q)))) ∨ (¬ mat g b q ∧ fX6_nameAt_b2 (nI b) (nI (b + 4)) cuts mr (nI n) letters (nI q) = some (.inl (nI (q + 1)))) := fun q hq => by
    have hd : fX6_nameAt_b2 (nI b) (nI (b + 4)) cuts mr (nI n) letters (nI q) = bd (loopF (fX6_nameAt_b39 (nI b) (nI (b + 4)) (nI q) mr (nI n) cuts letters) 1000 ((1 : Int32), (0 : Int32))) (fun T1 => if T1 = (0 : Int32) then (some (.inl (nI (q + 1)))) else (some (.inr (.inl (nI q))))) := by
      unfold fX6_nameAt_b2
      rw [if_neg (show ¬ (6 : Int32) ≤ nI q from nle (n := 6) hq (by omega)), nI_1, ckI_nI (by omega) (by omega), ckI_nI (by omega) (by omega), nI_clamp (by omega), nI_clamp (by omega), hC.1 _ (by omega), hC.1 _ (by omega), e4, if_pos (show nI 4 = nI (4 * (q + 1)) - nI (4 * q) by rw [pk_sub (by omega), show 4 * (q + 1) - 4 * q = 4 by omega]), bd_s]
    rw [hd]
    rcases name39 hT hC hb hq with ⟨h1, h2⟩ | ⟨h1, h2⟩
    · exact Or.inl ⟨h1, by rw [h2, bd_s, if_neg (by decide)]⟩
    · exact Or.inr ⟨h1, by rw [h2, bd_s, if_pos rfl]⟩
  have fin : fX6_nameAt_b2 (nI b) (nI (b + 4)) cuts mr (nI n) letters (nI 6) = some (.inr (.inr ())) := by
    unfold fX6_nameAt_b2
    rw [if_pos (show (6 : Int32) ≤ nI 6 by decide)]
  have all : ∀ (d q F : Nat), q + d = 6 → d < F → (∃ r, r < 6 ∧ mat g b r ∧ loopF (fX6_nameAt_b2 (nI b) (nI (b + 4)) cuts mr (nI n) letters) F (nI q) = some (.inl (nI r))) ∨ ((∀ r, q ≤ r → r < 6 → ¬ mat g b r) ∧ loopF (fX6_nameAt_b2 (nI b) (nI (b + 4)) cuts mr (nI n) letters) F (nI q) = some (.inr ())) := by
    intro d
    induction d with
    | zero =>
      intro q F hq hF
      obtain ⟨F, rfl⟩ : ∃ m, F = m + 1 := ⟨F - 1, by omega⟩
      have : q = 6 := by omega
      subst this
      exact Or.inr ⟨fun r h1 h2 => by omega, loop_end fin⟩
    | succ d ih =>
      intro q F hq hF
      obtain ⟨F, rfl⟩ : ∃ m, F = m + 1 := ⟨F - 1, by omega⟩
      rcases st q (by omega) with ⟨h1, h2⟩ | ⟨h1, h2⟩
      · exact Or.inl ⟨q, by omega, h1, loop_end h2⟩
      · rw [loop_go h2]
        rcases ih (q + 1) F (by omega) (by omega) with h3 | ⟨h3, h4⟩
        · exact Or.inl h3
        · refine Or.inr ⟨fun r g1 g2 => ?_, h4⟩
          by_cases e : r = q
          · rw [e]; exact h1
          · exact h3 r (by omega) g2
  unfold fX6_nameAt
  rcases all 6 0 1000 (by omega) (by omega) with ⟨r, h1, h2, h3⟩ | ⟨h1, h2⟩
  · exact Or.inl ⟨r, h1, h2, by rw [show (0 : Int32) = nI 0 from rfl, h3, bd_s]; rfl⟩
  · exact Or.inr ⟨fun q hq => h1 q (by omega) hq, by rw [show (0 : Int32) = nI 0 from rfl, h2, bd_s]; rfl⟩
theorem name6x {cuts letters : Nat → Int32} (hC : RConst cuts letters) {b e : Nat} (hb : b ≤ e) (he : e ≤ 240) (h4 : ¬ e = b + 4) : fX6_nameAt mr cuts letters (nI n) (nI b) (nI e) = some (-4) := by
  have st : ∀ q, 0 ≤ q → q < 6 → fX6_nameAt_b2 (nI b) (nI e) cuts mr (nI n) letters (nI q) = some (.inl (nI (q + 1))) := fun q _ hq => by
    unfold fX6_nameAt_b2
    rw [if_neg (show ¬ (6 : Int32) ≤ nI q from nle (n := 6) hq (by omega)), nI_1, ckI_nI (by omega) (by omega), ckI_nI (by omega) (by omega), nI_clamp (by omega), nI_clamp (by omega), hC.1 _ (by omega), hC.1 _ (by omega), pk_sub hb, pk_sub (by omega), if_neg (fun z => h4 (by have := (nI_eq (by omega) (by omega)).mp z; omega)), bd_s]
    rw [loop_end (n := 999) (t := (0 : Int32)) (by unfold fX6_nameAt_b39; dsimp only; rw [if_pos rfl]), bd_s, if_pos rfl]
  unfold fX6_nameAt
  rw [show (0 : Int32) = nI 0 from rfl, loop_run (B := fX6_nameAt_b2 (nI b) (nI e) cuts mr (nI n) letters) (fun q => nI q) (a := 0) (e := 6) (t := .inr ()) st (by
    show fX6_nameAt_b2 (nI b) (nI e) cuts mr (nI n) letters (nI 6) = _
    unfold fX6_nameAt_b2
    rw [if_pos (show (6 : Int32) ≤ nI 6 by decide)]) 6 0 1000 (by omega) (by omega) (by omega), bd_s]
  rfl
theorem known_y : ∀ q, q < 6 → fX0_isKnown (nI (codN q)) = some 1 := by decide +kernel
theorem known_n {x : Nat} (hx : x < 2 ^ 31) (h : ∀ q, q < 6 → ¬ x = codN q) : fX0_isKnown (nI x) = some 0 := by
  have ne : ∀ q, q < 6 → codN q < 2 ^ 31 → ¬ nI x = nI (codN q) := fun q hq hc z => h q hq ((nI_eq hx hc).mp z)
  unfold fX0_isKnown
  rw [if_neg (show ¬ nI x = (1717660012 : Int32) from ne 1 (by omega) (by decide)), if_neg (show ¬ nI x = (1801807214 : Int32) from ne 5 (by omega) (by decide)), if_neg (show ¬ nI x = (1819242347 : Int32) from ne 4 (by omega) (by decide)), if_neg (show ¬ nI x = (1835102827 : Int32) from ne 3 (by omega) (by decide)), if_neg (show ¬ nI x = (1836413812 : Int32) from ne 2 (by omega) (by decide)), if_neg (show ¬ nI x = (1936683636 : Int32) from ne 0 (by omega) (by decide))]
theorem mat_cod {b q : Nat} (hq : q < 6) (h0 : g b < 256) (h1 : g (b + 1) < 256) (h2 : g (b + 2) < 256) (h3 : g (b + 3) < 256) : mat g b q ↔ 256 * (256 * (256 * g b + g (b + 1)) + g (b + 2)) + g (b + 3) = codN q := by
  unfold mat
  rcases (show q = 0 ∨ q = 1 ∨ q = 2 ∨ q = 3 ∨ q = 4 ∨ q = 5 by omega) with rfl | rfl | rfl | rfl | rfl | rfl
  · show g b = 115 ∧ g (b + 1) = 111 ∧ g (b + 2) = 114 ∧ g (b + 3) = 116 ↔ _ = 1936683636
    omega
  · show g b = 102 ∧ g (b + 1) = 97 ∧ g (b + 2) = 105 ∧ g (b + 3) = 108 ↔ _ = 1717660012
    omega
  · show g b = 109 ∧ g (b + 1) = 117 ∧ g (b + 2) = 115 ∧ g (b + 3) = 116 ↔ _ = 1836413812
    omega
  · show g b = 109 ∧ g (b + 1) = 97 ∧ g (b + 2) = 114 ∧ g (b + 3) = 107 ↔ _ = 1835102827
    omega
  · show g b = 108 ∧ g (b + 1) = 111 ∧ g (b + 2) = 111 ∧ g (b + 3) = 107 ↔ _ = 1819242347
    omega
  · show g b = 107 ∧ g (b + 1) = 101 ∧ g (b + 2) = 101 ∧ g (b + 3) = 110 ↔ _ = 1801807214
    omega
/-- the NAME at hand, both ways -/
theorem name_two (hT : TP n tb mr g) {cuts letters : Nat → Int32} (hC : RConst cuts letters) {b e : Nat} (hb : b ≤ e) (he : e ≤ n) (hr : ∀ j, b ≤ j → j < e → inB g 97 122 j) :
    (∃ q, q < 6 ∧ fX0_nameAtHand (nI e) (nI b) tb = some (nI (codN q)) ∧ fX0_isKnown (nI (codN q)) = some 1 ∧ fX6_nameAt mr cuts letters (nI n) (nI b) (nI e) = some (nI q)) ∨ ∃ v, fX0_nameAtHand (nI e) (nI b) tb = some v ∧ fX0_isKnown v = some 0 ∧ fX6_nameAt mr cuts letters (nI n) (nI b) (nI e) = some (-4) := by
  have hn := hT.1
  by_cases h4 : e = b + 4
  · subst h4
    have q0 := hr b (by omega) (by omega)
    have q1 := hr (b + 1) (by omega) (by omega)
    have q2 := hr (b + 2) (by omega) (by omega)
    have q3 := hr (b + 3) (by omega) (by omega)
    unfold inB at q0 q1 q2 q3
    have h5 := name5 hT he hr
    rcases name6 hT hC he with ⟨q, hq, hm, h6⟩ | ⟨hm, h6⟩
    · have hc := (mat_cod hq (by omega) (by omega) (by omega) (by omega)).mp hm
      rw [hc] at h5
      exact Or.inl ⟨q, hq, h5, known_y q hq, h6⟩
    · refine Or.inr ⟨_, h5, known_n (by omega) (fun q hq z => hm q hq ((mat_cod hq (by omega) (by omega) (by omega) (by omega)).mpr z)), h6⟩
  · refine Or.inr ⟨0, ?_, by decide +kernel, name6x hC hb (by omega) h4⟩
    unfold fX0_nameAtHand
    rw [if_neg]
    rw [pk_sub hb]
    exact fun z => h4 (by have := (nI_eq (b := 4) (by omega) (by omega)).mp z; omega)
end Tape
end TextA
